set_option maxHeartbeats 4000000 in
set_option maxRecDepth 100000 in
theorem lc_write {p : Program} {l : Launch} {e : Env} {s : State} {m : MethodId} {below : List Frame} {meth : Method} {c : Code} {D : va_G} {cA : Nat → ClassId} {ad1 ad2 tb : Nat → Nat} {b L : Nat} {xs : Nat → Int32} (hL : L ≤ 2048) (C0 : lw_At p s m meth c b L xs) (hK : va_K D vwCl (nb_ty cA) s) (hi1 : nb_inj xc_sh ad1) (hi2 : nb_inj xm_sh ad2) (hA1 : ∀ q, nb_A xc_sh ad1 q → s.heap.size ≤ q) (hA2 : ∀ q, nb_A xm_sh ad2 q → s.heap.size ≤ q) (hd : ∀ i j, i < xc_sh.length → j < xm_sh.length → ad1 i ≠ ad2 j) (hZ1 : xc_Z (nb_A xc_sh ad1) tb s s.heap) {i : Nat} (hi : i + 4 ≤ L) {N : Nat} {r : Int32} {σ τ σo τo : nb_St} (h1 : fX7_write N σ (xs (nI i + (1 : Int32)).toNatClampNeg) ((((xs (nI i + (2 : Int32)).toNatClampNeg)).toInt64 <<< (((32 : Int32)).toInt64 &&& 63)) ||| (((xs (nI i + (3 : Int32)).toNatClampNeg)).toInt64 &&& (4294967295 : Int64))) = some (r, σo)) (h2 : fX8_write N τ (xs (nI i + (1 : Int32)).toNatClampNeg) ((((xs (nI i + (2 : Int32)).toNatClampNeg)).toInt64 <<< (((32 : Int32)).toInt64 &&& 63)) ||| (((xs (nI i + (3 : Int32)).toNatClampNeg)).toInt64 &&& (4294967295 : Int64))) = some (r, τo)) {H : Heap} {locs : List Loc} {ls : Array Slot} (hP1 : va_P D vwCl (nb_cs xc_sh ad1 cA σ) H) (hP2 : va_P D vwCl (nb_cs xm_sh ad2 cA τ) H) (hS : va_S (fun q : Nat => s.heap.size ≤ q) s.heap H locs) (hl : lv_has ls 4 [(0, .ref b), (1, .ref (ad1 0)), (2, .ref (ad2 0)), (3, .int (nI i))]) (hnext : ∀ (H : Heap) (locs : List Loc) (ls : Array Slot), va_P D vwCl (nb_cs xc_sh ad1 cA σo) H → va_P D vwCl (nb_cs xm_sh ad2 cA τo) H → va_S (fun q : Nat => s.heap.size ≤ q) s.heap H locs → lv_has ls 4 [(0, .ref b), (1, .ref (ad1 0)), (2, .ref (ad2 0)), (3, .int (nI i))] → W p l e room_1 s m #[Value.ref b] below meth c H locs 111 1570 (lw_Z below #[Value.ref b] s) (F0 m 924 ls [])) : W p l e room_1 s m #[Value.ref b] below meth c H locs 111 1570 (lw_Z below #[Value.ref b] s) (F0 m 160 ls []) := by
  obtain ⟨hx, hb, hr, hml, hown, hts0, hX, hbl, hlocks, hgv⟩ := C0
  have hts : ∀ w ∈ xT, w.before #[Value.ref b] s = true := fun w h => hts0 w (List.mem_filter.mp h).1
  have hbA : ¬ (fun q : Nat => s.heap.size ≤ q) b := Nat.not_le.mpr hbl
  have hAd1 : ∀ a, a < s.heap.size → (fun q : Nat => s.heap.size ≤ q) a → nb_A xc_sh ad1 a := fun a h1 h2 => absurd h1 (Nat.not_lt.mpr h2)
  have hAd2 : ∀ a, a < s.heap.size → (fun q : Nat => s.heap.size ≤ q) a → nb_A xm_sh ad2 a := fun a h1 h2 => absurd h1 (Nat.not_lt.mpr h2)
  have hin1 : vp_in (nI i + (1 : Int32)) L := by rw [show nI i + (1 : Int32) = nI (i + 1) from nI_add i 1]; exact vp_in_nI (by omega) (by omega)
  have hin2 : vp_in (nI i + (2 : Int32)) L := by rw [show nI i + (2 : Int32) = nI (i + 2) from nI_add i 2]; exact vp_in_nI (by omega) (by omega)
  have hin3 : vp_in (nI i + (3 : Int32)) L := by rw [show nI i + (3 : Int32) = nI (i + 3) from nI_add i 3]; exact vp_in_nI (by omega) (by omega)
  refine lv_aload_n hx hb dL_law_160 rfl (lv_at hl 1 rfl) ?_
  refine lv_aload_n hx hb dL_law_161 rfl (lv_at hl 0 rfl) ?_
  refine lv_iload_n hx hb dL_law_162 rfl (lv_at hl 3 rfl) ?_
  refine lv_iconst (v := (1 : Int32)) hx hb dL_law_163 (by decide) ?_
  refine lv_iadd hx hb dL_law_164 ?_
  refine va_sld hx hb hX hbl hbA hS hin1 dL_law_165 ?_
  refine lv_aload_n hx hb dL_law_166 rfl (lv_at hl 0 rfl) ?_
  refine lv_iload_n hx hb dL_law_167 rfl (lv_at hl 3 rfl) ?_
  refine lv_iconst (v := (2 : Int32)) hx hb dL_law_168 (by decide) ?_
  refine lv_iadd hx hb dL_law_169 ?_
  refine va_sld hx hb hX hbl hbA hS hin2 dL_law_170 ?_
  refine lv_i2l hx hb dL_law_171 rfl ?_
  refine lv_bipush (v := (32 : Int32)) hx hb dL_law_172 (by decide) ?_
  refine lv_lshl hx hb dL_law_174 rfl ?_
  refine lv_aload_n hx hb dL_law_175 rfl (lv_at hl 0 rfl) ?_
  refine lv_iload_n hx hb dL_law_176 rfl (lv_at hl 3 rfl) ?_
  refine lv_iconst (v := (3 : Int32)) hx hb dL_law_177 (by decide) ?_
  refine lv_iadd hx hb dL_law_178 ?_
  refine va_sld hx hb hX hbl hbA hS hin3 dL_law_179 ?_
  refine lv_i2l hx hb dL_law_180 rfl ?_
  refine lv_ldc2 (own := RL) (v := (4294967295 : Int64)) hx hb hown (hts _ tw6_45) dL_law_181 ?_
  refine lv_land hx hb dL_law_184 ?_
  refine lv_lor hx hb dL_law_185 ?_
  refine nl_ci (G := (D, ad1, cA)) hS hA1 (va_runV (As := [.int (xs (nI i + (1 : Int32)).toNatClampNeg), .long (((((xs (nI i + (2 : Int32)).toNatClampNeg)).toInt64) <<< (((32 : Int32)).toInt64 &&& 63)) ||| ((((xs (nI i + (3 : Int32)).toNatClampNeg)).toInt64) &&& (4294967295 : Int64)))]) (rest := []) ⟨hx, hb, hml, hown, hts⟩ (c_X7_write l (G := (D, ad1, cA)) (tb := tb) hi1 xc_Zok (N := N) h1) (cwV 2 hts (xg_V tw2_97 tw2_98 tw2_99 tw1_1 tw2_100) rfl rfl rfl (by decide +kernel) ⟨Nat.le_of_ble_eq_true rfl, Nat.le_of_ble_eq_true rfl⟩) (nl_preV (G := (D, ad1, cA)) hK hZ1 xc_Zok hP1 hS hAd1 (k := 0) rfl rfl) rfl rfl hl.1 rfl (lv_room (Nat.le_of_ble_eq_true rfl)) dL_law_186 ⟨Nat.le_of_ble_eq_true rfl, Nat.le_of_ble_eq_true rfl⟩) (fun H locs hP1 hk hS => ?_)
  have hP1 : va_P D vwCl (nb_cs xc_sh ad1 cA σo) H := hP1
  have hP2 := nb_keep (sh := xc_sh) (ad := ad1) hP2 hd hk
  refine lv_aload_n hx hb dL_law_189 rfl (lv_at hl 2 rfl) ?_
  refine lv_aload_n hx hb dL_law_190 rfl (lv_at hl 0 rfl) ?_
  refine lv_iload_n hx hb dL_law_191 rfl (lv_at hl 3 rfl) ?_
  refine lv_iconst (v := (1 : Int32)) hx hb dL_law_192 (by decide) ?_
  refine lv_iadd hx hb dL_law_193 ?_
  refine va_sld hx hb hX hbl hbA hS hin1 dL_law_194 ?_
  refine lv_aload_n hx hb dL_law_195 rfl (lv_at hl 0 rfl) ?_
  refine lv_iload_n hx hb dL_law_196 rfl (lv_at hl 3 rfl) ?_
  refine lv_iconst (v := (2 : Int32)) hx hb dL_law_197 (by decide) ?_
  refine lv_iadd hx hb dL_law_198 ?_
  refine va_sld hx hb hX hbl hbA hS hin2 dL_law_199 ?_
  refine lv_i2l hx hb dL_law_200 rfl ?_
  refine lv_bipush (v := (32 : Int32)) hx hb dL_law_201 (by decide) ?_
  refine lv_lshl hx hb dL_law_203 rfl ?_
  refine lv_aload_n hx hb dL_law_204 rfl (lv_at hl 0 rfl) ?_
  refine lv_iload_n hx hb dL_law_205 rfl (lv_at hl 3 rfl) ?_
  refine lv_iconst (v := (3 : Int32)) hx hb dL_law_206 (by decide) ?_
  refine lv_iadd hx hb dL_law_207 ?_
  refine va_sld hx hb hX hbl hbA hS hin3 dL_law_208 ?_
  refine lv_i2l hx hb dL_law_209 rfl ?_
  refine lv_ldc2 (own := RL) (v := (4294967295 : Int64)) hx hb hown (hts _ tw6_45) dL_law_210 ?_
  refine lv_land hx hb dL_law_213 ?_
  refine lv_lor hx hb dL_law_214 ?_
  refine nl_ci (G := (D, ad2, cA)) hS hA2 (va_runV (As := [.int (xs (nI i + (1 : Int32)).toNatClampNeg), .long (((((xs (nI i + (2 : Int32)).toNatClampNeg)).toInt64) <<< (((32 : Int32)).toInt64 &&& 63)) ||| ((((xs (nI i + (3 : Int32)).toNatClampNeg)).toInt64) &&& (4294967295 : Int64)))]) (rest := [.int r]) ⟨hx, hb, hml, hown, hts⟩ (c_X8_write l (G := (D, ad2, cA)) (Z := fun _ _ => True) hi2 nb_Tok (N := N) h2) (cwV 2 hts (xg_V tw5_4 tw5_5 tw5_6 tw1_10 tw5_7) rfl rfl rfl (by decide +kernel) ⟨Nat.le_of_ble_eq_true rfl, Nat.le_of_ble_eq_true rfl⟩) (nl_preV (G := (D, ad2, cA)) (Z := fun _ _ => True) hK trivial nb_Tok hP2 hS hAd2 (k := 0) rfl rfl) rfl rfl hl.1 rfl (lv_room (Nat.le_of_ble_eq_true rfl)) dL_law_215 ⟨Nat.le_of_ble_eq_true rfl, Nat.le_of_ble_eq_true rfl⟩) (fun H locs hP2 hk hS => ?_)
  have hP2 : va_P D vwCl (nb_cs xm_sh ad2 cA τo) H := hP2
  have hP1 := nb_keep (sh := xm_sh) (ad := ad2) hP1 (fun i j g1 g2 e => hd j i g2 g1 e.symm) hk
  refine lv_icmp_eq (tgt := 924) hx hb dL_law_218 (by decide) (fun c1 => ?_) (fun c1 => absurd rfl c1)
  exact hnext _ _ _ hP1 hP2 hS hl
set_option maxHeartbeats 4000000 in
set_option maxRecDepth 100000 in
theorem lc_wipe {p : Program} {l : Launch} {e : Env} {s : State} {m : MethodId} {below : List Frame} {meth : Method} {c : Code} {D : va_G} {cA : Nat → ClassId} {ad1 ad2 tb : Nat → Nat} {b L : Nat} {xs : Nat → Int32} (hL : L ≤ 2048) (C0 : lw_At p s m meth c b L xs) (hK : va_K D vwCl (nb_ty cA) s) (hi1 : nb_inj xc_sh ad1) (hi2 : nb_inj xm_sh ad2) (hA1 : ∀ q, nb_A xc_sh ad1 q → s.heap.size ≤ q) (hA2 : ∀ q, nb_A xm_sh ad2 q → s.heap.size ≤ q) (hd : ∀ i j, i < xc_sh.length → j < xm_sh.length → ad1 i ≠ ad2 j) (hZ1 : xc_Z (nb_A xc_sh ad1) tb s s.heap) {i : Nat} (hi : i + 4 ≤ L) {N : Nat} {r : Int32} {σ τ σo τo : nb_St} (h1 : fX7_wipe N σ  = some (r, σo)) (h2 : fX8_wipe N τ  = some (r, τo)) {H : Heap} {locs : List Loc} {ls : Array Slot} (hP1 : va_P D vwCl (nb_cs xc_sh ad1 cA σ) H) (hP2 : va_P D vwCl (nb_cs xm_sh ad2 cA τ) H) (hS : va_S (fun q : Nat => s.heap.size ≤ q) s.heap H locs) (hl : lv_has ls 4 [(0, .ref b), (1, .ref (ad1 0)), (2, .ref (ad2 0)), (3, .int (nI i))]) (hnext : ∀ (H : Heap) (locs : List Loc) (ls : Array Slot), va_P D vwCl (nb_cs xc_sh ad1 cA σo) H → va_P D vwCl (nb_cs xm_sh ad2 cA τo) H → va_S (fun q : Nat => s.heap.size ≤ q) s.heap H locs → lv_has ls 4 [(0, .ref b), (1, .ref (ad1 0)), (2, .ref (ad2 0)), (3, .int (nI i))] → W p l e room_1 s m #[Value.ref b] below meth c H locs 111 1570 (lw_Z below #[Value.ref b] s) (F0 m 924 ls [])) : W p l e room_1 s m #[Value.ref b] below meth c H locs 111 1570 (lw_Z below #[Value.ref b] s) (F0 m 223 ls []) := by
  obtain ⟨hx, hb, hr, hml, hown, hts0, hX, hbl, hlocks, hgv⟩ := C0
  have hts : ∀ w ∈ xT, w.before #[Value.ref b] s = true := fun w h => hts0 w (List.mem_filter.mp h).1
  have hbA : ¬ (fun q : Nat => s.heap.size ≤ q) b := Nat.not_le.mpr hbl
  have hAd1 : ∀ a, a < s.heap.size → (fun q : Nat => s.heap.size ≤ q) a → nb_A xc_sh ad1 a := fun a h1 h2 => absurd h1 (Nat.not_lt.mpr h2)
  have hAd2 : ∀ a, a < s.heap.size → (fun q : Nat => s.heap.size ≤ q) a → nb_A xm_sh ad2 a := fun a h1 h2 => absurd h1 (Nat.not_lt.mpr h2)
  have hin1 : vp_in (nI i + (1 : Int32)) L := by rw [show nI i + (1 : Int32) = nI (i + 1) from nI_add i 1]; exact vp_in_nI (by omega) (by omega)
  have hin2 : vp_in (nI i + (2 : Int32)) L := by rw [show nI i + (2 : Int32) = nI (i + 2) from nI_add i 2]; exact vp_in_nI (by omega) (by omega)
  have hin3 : vp_in (nI i + (3 : Int32)) L := by rw [show nI i + (3 : Int32) = nI (i + 3) from nI_add i 3]; exact vp_in_nI (by omega) (by omega)
  refine lv_aload_n hx hb dL_law_223 rfl (lv_at hl 1 rfl) ?_
  refine nl_ci (G := (D, ad1, cA)) hS hA1 (va_runV (As := []) (rest := []) ⟨hx, hb, hml, hown, hts⟩ (c_X7_wipe l (G := (D, ad1, cA)) (tb := tb) hi1 xc_Zok (N := N) h1) (cwV 0 hts (xg_V tw2_104 tw2_105 tw2_106 tw1_1 tw2_107) rfl rfl rfl (by decide +kernel) ⟨Nat.le_of_ble_eq_true rfl, Nat.le_of_ble_eq_true rfl⟩) (nl_preV (G := (D, ad1, cA)) hK hZ1 xc_Zok hP1 hS hAd1 (k := 0) rfl rfl) rfl rfl hl.1 rfl (lv_room (Nat.le_of_ble_eq_true rfl)) dL_law_224 ⟨Nat.le_of_ble_eq_true rfl, Nat.le_of_ble_eq_true rfl⟩) (fun H locs hP1 hk hS => ?_)
  have hP1 : va_P D vwCl (nb_cs xc_sh ad1 cA σo) H := hP1
  have hP2 := nb_keep (sh := xc_sh) (ad := ad1) hP2 hd hk
  refine lv_aload_n hx hb dL_law_227 rfl (lv_at hl 2 rfl) ?_
  refine nl_ci (G := (D, ad2, cA)) hS hA2 (va_runV (As := []) (rest := [.int r]) ⟨hx, hb, hml, hown, hts⟩ (c_X8_wipe l (G := (D, ad2, cA)) (Z := fun _ _ => True) hi2 nb_Tok (N := N) h2) (cwV 0 hts (xg_V tw5_13 tw5_14 tw5_15 tw1_10 tw5_16) rfl rfl rfl (by decide +kernel) ⟨Nat.le_of_ble_eq_true rfl, Nat.le_of_ble_eq_true rfl⟩) (nl_preV (G := (D, ad2, cA)) (Z := fun _ _ => True) hK trivial nb_Tok hP2 hS hAd2 (k := 0) rfl rfl) rfl rfl hl.1 rfl (lv_room (Nat.le_of_ble_eq_true rfl)) dL_law_228 ⟨Nat.le_of_ble_eq_true rfl, Nat.le_of_ble_eq_true rfl⟩) (fun H locs hP2 hk hS => ?_)
  have hP2 : va_P D vwCl (nb_cs xm_sh ad2 cA τo) H := hP2
  have hP1 := nb_keep (sh := xm_sh) (ad := ad2) hP1 (fun i j g1 g2 e => hd j i g2 g1 e.symm) hk
  refine lv_icmp_eq (tgt := 924) hx hb dL_law_231 (by decide) (fun c1 => ?_) (fun c1 => absurd rfl c1)
  exact hnext _ _ _ hP1 hP2 hS hl
set_option maxHeartbeats 4000000 in
set_option maxRecDepth 100000 in
theorem lc_fault {p : Program} {l : Launch} {e : Env} {s : State} {m : MethodId} {below : List Frame} {meth : Method} {c : Code} {D : va_G} {cA : Nat → ClassId} {ad1 ad2 tb : Nat → Nat} {b L : Nat} {xs : Nat → Int32} (hL : L ≤ 2048) (C0 : lw_At p s m meth c b L xs) (hK : va_K D vwCl (nb_ty cA) s) (hi1 : nb_inj xc_sh ad1) (hi2 : nb_inj xm_sh ad2) (hA1 : ∀ q, nb_A xc_sh ad1 q → s.heap.size ≤ q) (hA2 : ∀ q, nb_A xm_sh ad2 q → s.heap.size ≤ q) (hd : ∀ i j, i < xc_sh.length → j < xm_sh.length → ad1 i ≠ ad2 j) (hZ1 : xc_Z (nb_A xc_sh ad1) tb s s.heap) {i : Nat} (hi : i + 4 ≤ L) {N : Nat} {r : Int32} {σ τ σo τo : nb_St} (h1 : fX7_fault N σ  = some (r, σo)) (h2 : fX8_fault N τ  = some (r, τo)) {H : Heap} {locs : List Loc} {ls : Array Slot} (hP1 : va_P D vwCl (nb_cs xc_sh ad1 cA σ) H) (hP2 : va_P D vwCl (nb_cs xm_sh ad2 cA τ) H) (hS : va_S (fun q : Nat => s.heap.size ≤ q) s.heap H locs) (hl : lv_has ls 4 [(0, .ref b), (1, .ref (ad1 0)), (2, .ref (ad2 0)), (3, .int (nI i))]) (hnext : ∀ (H : Heap) (locs : List Loc) (ls : Array Slot), va_P D vwCl (nb_cs xc_sh ad1 cA σo) H → va_P D vwCl (nb_cs xm_sh ad2 cA τo) H → va_S (fun q : Nat => s.heap.size ≤ q) s.heap H locs → lv_has ls 4 [(0, .ref b), (1, .ref (ad1 0)), (2, .ref (ad2 0)), (3, .int (nI i))] → W p l e room_1 s m #[Value.ref b] below meth c H locs 111 1570 (lw_Z below #[Value.ref b] s) (F0 m 924 ls [])) : W p l e room_1 s m #[Value.ref b] below meth c H locs 111 1570 (lw_Z below #[Value.ref b] s) (F0 m 236 ls []) := by
  obtain ⟨hx, hb, hr, hml, hown, hts0, hX, hbl, hlocks, hgv⟩ := C0
  have hts : ∀ w ∈ xT, w.before #[Value.ref b] s = true := fun w h => hts0 w (List.mem_filter.mp h).1
  have hbA : ¬ (fun q : Nat => s.heap.size ≤ q) b := Nat.not_le.mpr hbl
  have hAd1 : ∀ a, a < s.heap.size → (fun q : Nat => s.heap.size ≤ q) a → nb_A xc_sh ad1 a := fun a h1 h2 => absurd h1 (Nat.not_lt.mpr h2)
  have hAd2 : ∀ a, a < s.heap.size → (fun q : Nat => s.heap.size ≤ q) a → nb_A xm_sh ad2 a := fun a h1 h2 => absurd h1 (Nat.not_lt.mpr h2)
  have hin1 : vp_in (nI i + (1 : Int32)) L := by rw [show nI i + (1 : Int32) = nI (i + 1) from nI_add i 1]; exact vp_in_nI (by omega) (by omega)
  have hin2 : vp_in (nI i + (2 : Int32)) L := by rw [show nI i + (2 : Int32) = nI (i + 2) from nI_add i 2]; exact vp_in_nI (by omega) (by omega)
  have hin3 : vp_in (nI i + (3 : Int32)) L := by rw [show nI i + (3 : Int32) = nI (i + 3) from nI_add i 3]; exact vp_in_nI (by omega) (by omega)
  refine lv_aload_n hx hb dL_law_236 rfl (lv_at hl 1 rfl) ?_
  refine nl_ci (G := (D, ad1, cA)) hS hA1 (va_runV (As := []) (rest := []) ⟨hx, hb, hml, hown, hts⟩ (c_X7_fault l (G := (D, ad1, cA)) (tb := tb) hi1 xc_Zok (N := N) h1) (cwV 0 hts (xg_V tw2_108 tw2_109 tw2_110 tw1_1 tw2_111) rfl rfl rfl (by decide +kernel) ⟨Nat.le_of_ble_eq_true rfl, Nat.le_of_ble_eq_true rfl⟩) (nl_preV (G := (D, ad1, cA)) hK hZ1 xc_Zok hP1 hS hAd1 (k := 0) rfl rfl) rfl rfl hl.1 rfl (lv_room (Nat.le_of_ble_eq_true rfl)) dL_law_237 ⟨Nat.le_of_ble_eq_true rfl, Nat.le_of_ble_eq_true rfl⟩) (fun H locs hP1 hk hS => ?_)
  have hP1 : va_P D vwCl (nb_cs xc_sh ad1 cA σo) H := hP1
  have hP2 := nb_keep (sh := xc_sh) (ad := ad1) hP2 hd hk
  refine lv_aload_n hx hb dL_law_240 rfl (lv_at hl 2 rfl) ?_
  refine nl_ci (G := (D, ad2, cA)) hS hA2 (va_runV (As := []) (rest := [.int r]) ⟨hx, hb, hml, hown, hts⟩ (c_X8_fault l (G := (D, ad2, cA)) (Z := fun _ _ => True) hi2 nb_Tok (N := N) h2) (cwV 0 hts (xg_V tw5_17 tw5_18 tw5_19 tw1_10 tw5_20) rfl rfl rfl (by decide +kernel) ⟨Nat.le_of_ble_eq_true rfl, Nat.le_of_ble_eq_true rfl⟩) (nl_preV (G := (D, ad2, cA)) (Z := fun _ _ => True) hK trivial nb_Tok hP2 hS hAd2 (k := 0) rfl rfl) rfl rfl hl.1 rfl (lv_room (Nat.le_of_ble_eq_true rfl)) dL_law_241 ⟨Nat.le_of_ble_eq_true rfl, Nat.le_of_ble_eq_true rfl⟩) (fun H locs hP2 hk hS => ?_)
  have hP2 : va_P D vwCl (nb_cs xm_sh ad2 cA τo) H := hP2
  have hP1 := nb_keep (sh := xm_sh) (ad := ad2) hP1 (fun i j g1 g2 e => hd j i g2 g1 e.symm) hk
  refine lv_icmp_eq (tgt := 924) hx hb dL_law_244 (by decide) (fun c1 => ?_) (fun c1 => absurd rfl c1)
  exact hnext _ _ _ hP1 hP2 hS hl
set_option maxHeartbeats 4000000 in
set_option maxRecDepth 100000 in
theorem lc_lay {p : Program} {l : Launch} {e : Env} {s : State} {m : MethodId} {below : List Frame} {meth : Method} {c : Code} {D : va_G} {cA : Nat → ClassId} {ad1 ad2 tb : Nat → Nat} {b L : Nat} {xs : Nat → Int32} (hL : L ≤ 2048) (C0 : lw_At p s m meth c b L xs) (hK : va_K D vwCl (nb_ty cA) s) (hi1 : nb_inj xc_sh ad1) (hi2 : nb_inj xm_sh ad2) (hA1 : ∀ q, nb_A xc_sh ad1 q → s.heap.size ≤ q) (hA2 : ∀ q, nb_A xm_sh ad2 q → s.heap.size ≤ q) (hd : ∀ i j, i < xc_sh.length → j < xm_sh.length → ad1 i ≠ ad2 j) (hZ1 : xc_Z (nb_A xc_sh ad1) tb s s.heap) {i : Nat} (hi : i + 4 ≤ L) {N : Nat} {r : Int32} {σ τ σo τo : nb_St} (h1 : fX7_lay N σ  = some (r, σo)) (h2 : fX8_lay N τ  = some (r, τo)) {H : Heap} {locs : List Loc} {ls : Array Slot} (hP1 : va_P D vwCl (nb_cs xc_sh ad1 cA σ) H) (hP2 : va_P D vwCl (nb_cs xm_sh ad2 cA τ) H) (hS : va_S (fun q : Nat => s.heap.size ≤ q) s.heap H locs) (hl : lv_has ls 4 [(0, .ref b), (1, .ref (ad1 0)), (2, .ref (ad2 0)), (3, .int (nI i))]) (hnext : ∀ (H : Heap) (locs : List Loc) (ls : Array Slot), va_P D vwCl (nb_cs xc_sh ad1 cA σo) H → va_P D vwCl (nb_cs xm_sh ad2 cA τo) H → va_S (fun q : Nat => s.heap.size ≤ q) s.heap H locs → lv_has ls 4 [(0, .ref b), (1, .ref (ad1 0)), (2, .ref (ad2 0)), (3, .int (nI i))] → W p l e room_1 s m #[Value.ref b] below meth c H locs 111 1570 (lw_Z below #[Value.ref b] s) (F0 m 924 ls [])) : W p l e room_1 s m #[Value.ref b] below meth c H locs 111 1570 (lw_Z below #[Value.ref b] s) (F0 m 249 ls []) := by
  obtain ⟨hx, hb, hr, hml, hown, hts0, hX, hbl, hlocks, hgv⟩ := C0
  have hts : ∀ w ∈ xT, w.before #[Value.ref b] s = true := fun w h => hts0 w (List.mem_filter.mp h).1
  have hbA : ¬ (fun q : Nat => s.heap.size ≤ q) b := Nat.not_le.mpr hbl
  have hAd1 : ∀ a, a < s.heap.size → (fun q : Nat => s.heap.size ≤ q) a → nb_A xc_sh ad1 a := fun a h1 h2 => absurd h1 (Nat.not_lt.mpr h2)
  have hAd2 : ∀ a, a < s.heap.size → (fun q : Nat => s.heap.size ≤ q) a → nb_A xm_sh ad2 a := fun a h1 h2 => absurd h1 (Nat.not_lt.mpr h2)
  have hin1 : vp_in (nI i + (1 : Int32)) L := by rw [show nI i + (1 : Int32) = nI (i + 1) from nI_add i 1]; exact vp_in_nI (by omega) (by omega)
  have hin2 : vp_in (nI i + (2 : Int32)) L := by rw [show nI i + (2 : Int32) = nI (i + 2) from nI_add i 2]; exact vp_in_nI (by omega) (by omega)
  have hin3 : vp_in (nI i + (3 : Int32)) L := by rw [show nI i + (3 : Int32) = nI (i + 3) from nI_add i 3]; exact vp_in_nI (by omega) (by omega)
  refine lv_aload_n hx hb dL_law_249 rfl (lv_at hl 1 rfl) ?_
  refine nl_ci (G := (D, ad1, cA)) hS hA1 (va_runV (As := []) (rest := []) ⟨hx, hb, hml, hown, hts⟩ (c_X7_lay l (G := (D, ad1, cA)) (tb := tb) hi1 xc_Zok (N := N) h1) (cwV 0 hts (xg_V tw3_20 tw3_21 tw3_22 tw1_1 tw3_23) rfl rfl rfl (by decide +kernel) ⟨Nat.le_of_ble_eq_true rfl, Nat.le_of_ble_eq_true rfl⟩) (nl_preV (G := (D, ad1, cA)) hK hZ1 xc_Zok hP1 hS hAd1 (k := 0) rfl rfl) rfl rfl hl.1 rfl (lv_room (Nat.le_of_ble_eq_true rfl)) dL_law_250 ⟨Nat.le_of_ble_eq_true rfl, Nat.le_of_ble_eq_true rfl⟩) (fun H locs hP1 hk hS => ?_)
  have hP1 : va_P D vwCl (nb_cs xc_sh ad1 cA σo) H := hP1
  have hP2 := nb_keep (sh := xc_sh) (ad := ad1) hP2 hd hk
  refine lv_aload_n hx hb dL_law_253 rfl (lv_at hl 2 rfl) ?_
  refine nl_ci (G := (D, ad2, cA)) hS hA2 (va_runV (As := []) (rest := [.int r]) ⟨hx, hb, hml, hown, hts⟩ (c_X8_lay l (G := (D, ad2, cA)) (Z := fun _ _ => True) hi2 nb_Tok (N := N) h2) (cwV 0 hts (xg_V tw5_53 tw5_54 tw5_55 tw1_10 tw5_56) rfl rfl rfl (by decide +kernel) ⟨Nat.le_of_ble_eq_true rfl, Nat.le_of_ble_eq_true rfl⟩) (nl_preV (G := (D, ad2, cA)) (Z := fun _ _ => True) hK trivial nb_Tok hP2 hS hAd2 (k := 0) rfl rfl) rfl rfl hl.1 rfl (lv_room (Nat.le_of_ble_eq_true rfl)) dL_law_254 ⟨Nat.le_of_ble_eq_true rfl, Nat.le_of_ble_eq_true rfl⟩) (fun H locs hP2 hk hS => ?_)
  have hP2 : va_P D vwCl (nb_cs xm_sh ad2 cA τo) H := hP2
  have hP1 := nb_keep (sh := xm_sh) (ad := ad2) hP1 (fun i j g1 g2 e => hd j i g2 g1 e.symm) hk
  refine lv_icmp_eq (tgt := 924) hx hb dL_law_257 (by decide) (fun c1 => ?_) (fun c1 => absurd rfl c1)
  exact hnext _ _ _ hP1 hP2 hS hl
set_option maxHeartbeats 4000000 in
set_option maxRecDepth 100000 in
theorem lc_guest {p : Program} {l : Launch} {e : Env} {s : State} {m : MethodId} {below : List Frame} {meth : Method} {c : Code} {D : va_G} {cA : Nat → ClassId} {ad1 ad2 tb : Nat → Nat} {b L : Nat} {xs : Nat → Int32} (hL : L ≤ 2048) (C0 : lw_At p s m meth c b L xs) (hK : va_K D vwCl (nb_ty cA) s) (hi1 : nb_inj xc_sh ad1) (hi2 : nb_inj xm_sh ad2) (hA1 : ∀ q, nb_A xc_sh ad1 q → s.heap.size ≤ q) (hA2 : ∀ q, nb_A xm_sh ad2 q → s.heap.size ≤ q) (hd : ∀ i j, i < xc_sh.length → j < xm_sh.length → ad1 i ≠ ad2 j) (hZ1 : xc_Z (nb_A xc_sh ad1) tb s s.heap) {i : Nat} (hi : i + 4 ≤ L) {N : Nat} {r : Int32} {σ τ  : nb_St} (h1 : fX7_guest N σ (xs (nI i + (1 : Int32)).toNatClampNeg) (xs (nI i + (2 : Int32)).toNatClampNeg) = some r) (h2 : fX8_guest N τ (xs (nI i + (1 : Int32)).toNatClampNeg) (xs (nI i + (2 : Int32)).toNatClampNeg) = some r) {H : Heap} {locs : List Loc} {ls : Array Slot} (hP1 : va_P D vwCl (nb_cs xc_sh ad1 cA σ) H) (hP2 : va_P D vwCl (nb_cs xm_sh ad2 cA τ) H) (hS : va_S (fun q : Nat => s.heap.size ≤ q) s.heap H locs) (hl : lv_has ls 4 [(0, .ref b), (1, .ref (ad1 0)), (2, .ref (ad2 0)), (3, .int (nI i))]) (hnext : ∀ (H : Heap) (locs : List Loc) (ls : Array Slot), va_P D vwCl (nb_cs xc_sh ad1 cA σ) H → va_P D vwCl (nb_cs xm_sh ad2 cA τ) H → va_S (fun q : Nat => s.heap.size ≤ q) s.heap H locs → lv_has ls 4 [(0, .ref b), (1, .ref (ad1 0)), (2, .ref (ad2 0)), (3, .int (nI i))] → W p l e room_1 s m #[Value.ref b] below meth c H locs 111 1570 (lw_Z below #[Value.ref b] s) (F0 m 924 ls [])) : W p l e room_1 s m #[Value.ref b] below meth c H locs 111 1570 (lw_Z below #[Value.ref b] s) (F0 m 262 ls []) := by
  obtain ⟨hx, hb, hr, hml, hown, hts0, hX, hbl, hlocks, hgv⟩ := C0
  have hts : ∀ w ∈ xT, w.before #[Value.ref b] s = true := fun w h => hts0 w (List.mem_filter.mp h).1
  have hbA : ¬ (fun q : Nat => s.heap.size ≤ q) b := Nat.not_le.mpr hbl
  have hAd1 : ∀ a, a < s.heap.size → (fun q : Nat => s.heap.size ≤ q) a → nb_A xc_sh ad1 a := fun a h1 h2 => absurd h1 (Nat.not_lt.mpr h2)
  have hAd2 : ∀ a, a < s.heap.size → (fun q : Nat => s.heap.size ≤ q) a → nb_A xm_sh ad2 a := fun a h1 h2 => absurd h1 (Nat.not_lt.mpr h2)
  have hin1 : vp_in (nI i + (1 : Int32)) L := by rw [show nI i + (1 : Int32) = nI (i + 1) from nI_add i 1]; exact vp_in_nI (by omega) (by omega)
  have hin2 : vp_in (nI i + (2 : Int32)) L := by rw [show nI i + (2 : Int32) = nI (i + 2) from nI_add i 2]; exact vp_in_nI (by omega) (by omega)
  have hin3 : vp_in (nI i + (3 : Int32)) L := by rw [show nI i + (3 : Int32) = nI (i + 3) from nI_add i 3]; exact vp_in_nI (by omega) (by omega)
  refine lv_aload_n hx hb dL_law_262 rfl (lv_at hl 1 rfl) ?_
  refine lv_aload_n hx hb dL_law_263 rfl (lv_at hl 0 rfl) ?_
  refine lv_iload_n hx hb dL_law_264 rfl (lv_at hl 3 rfl) ?_
  refine lv_iconst (v := (1 : Int32)) hx hb dL_law_265 (by decide) ?_
  refine lv_iadd hx hb dL_law_266 ?_
  refine va_sld hx hb hX hbl hbA hS hin1 dL_law_267 ?_
  refine lv_aload_n hx hb dL_law_268 rfl (lv_at hl 0 rfl) ?_
  refine lv_iload_n hx hb dL_law_269 rfl (lv_at hl 3 rfl) ?_
  refine lv_iconst (v := (2 : Int32)) hx hb dL_law_270 (by decide) ?_
  refine lv_iadd hx hb dL_law_271 ?_
  refine va_sld hx hb hX hbl hbA hS hin2 dL_law_272 ?_
  refine nl_ci (G := (D, ad1, cA)) hS hA1 (va_runV (As := [.int (xs (nI i + (1 : Int32)).toNatClampNeg), .int (xs (nI i + (2 : Int32)).toNatClampNeg)]) (rest := []) ⟨hx, hb, hml, hown, hts⟩ (c_X7_guest l (G := (D, ad1, cA)) (tb := tb) hi1 xc_Zok (N := N) h1) (cwV 2 hts (xg_V tw3_28 tw3_29 tw3_30 tw1_1 tw3_31) rfl rfl rfl (by decide +kernel) ⟨Nat.le_of_ble_eq_true rfl, Nat.le_of_ble_eq_true rfl⟩) (nl_preV (G := (D, ad1, cA)) hK hZ1 xc_Zok hP1 hS hAd1 (k := 0) rfl rfl) rfl rfl hl.1 rfl (lv_room (Nat.le_of_ble_eq_true rfl)) dL_law_273 ⟨Nat.le_of_ble_eq_true rfl, Nat.le_of_ble_eq_true rfl⟩) (fun H locs hP1 hk hS => ?_)
  have hP1 : va_P D vwCl (nb_cs xc_sh ad1 cA σ) H := hP1
  have hP2 := nb_keep (sh := xc_sh) (ad := ad1) hP2 hd hk
  refine lv_aload_n hx hb dL_law_276 rfl (lv_at hl 2 rfl) ?_
  refine lv_aload_n hx hb dL_law_277 rfl (lv_at hl 0 rfl) ?_
  refine lv_iload_n hx hb dL_law_278 rfl (lv_at hl 3 rfl) ?_
  refine lv_iconst (v := (1 : Int32)) hx hb dL_law_279 (by decide) ?_
  refine lv_iadd hx hb dL_law_280 ?_
  refine va_sld hx hb hX hbl hbA hS hin1 dL_law_281 ?_
  refine lv_aload_n hx hb dL_law_282 rfl (lv_at hl 0 rfl) ?_
  refine lv_iload_n hx hb dL_law_283 rfl (lv_at hl 3 rfl) ?_
  refine lv_iconst (v := (2 : Int32)) hx hb dL_law_284 (by decide) ?_
  refine lv_iadd hx hb dL_law_285 ?_
  refine va_sld hx hb hX hbl hbA hS hin2 dL_law_286 ?_
  refine nl_ci (G := (D, ad2, cA)) hS hA2 (va_runV (As := [.int (xs (nI i + (1 : Int32)).toNatClampNeg), .int (xs (nI i + (2 : Int32)).toNatClampNeg)]) (rest := [.int r]) ⟨hx, hb, hml, hown, hts⟩ (c_X8_guest l (G := (D, ad2, cA)) (Z := fun _ _ => True) hi2 nb_Tok (N := N) h2) (cwV 2 hts (xg_V tw5_61 tw5_62 tw5_63 tw1_10 tw5_64) rfl rfl rfl (by decide +kernel) ⟨Nat.le_of_ble_eq_true rfl, Nat.le_of_ble_eq_true rfl⟩) (nl_preV (G := (D, ad2, cA)) (Z := fun _ _ => True) hK trivial nb_Tok hP2 hS hAd2 (k := 0) rfl rfl) rfl rfl hl.1 rfl (lv_room (Nat.le_of_ble_eq_true rfl)) dL_law_287 ⟨Nat.le_of_ble_eq_true rfl, Nat.le_of_ble_eq_true rfl⟩) (fun H locs hP2 hk hS => ?_)
  have hP2 : va_P D vwCl (nb_cs xm_sh ad2 cA τ) H := hP2
  have hP1 := nb_keep (sh := xm_sh) (ad := ad2) hP1 (fun i j g1 g2 e => hd j i g2 g1 e.symm) hk
  refine lv_icmp_eq (tgt := 924) hx hb dL_law_290 (by decide) (fun c1 => ?_) (fun c1 => absurd rfl c1)
  exact hnext _ _ _ hP1 hP2 hS hl
set_option maxHeartbeats 4000000 in
set_option maxRecDepth 100000 in
theorem lc_shame {p : Program} {l : Launch} {e : Env} {s : State} {m : MethodId} {below : List Frame} {meth : Method} {c : Code} {D : va_G} {cA : Nat → ClassId} {ad1 ad2 tb : Nat → Nat} {b L : Nat} {xs : Nat → Int32} (hL : L ≤ 2048) (C0 : lw_At p s m meth c b L xs) (hK : va_K D vwCl (nb_ty cA) s) (hi1 : nb_inj xc_sh ad1) (hi2 : nb_inj xm_sh ad2) (hA1 : ∀ q, nb_A xc_sh ad1 q → s.heap.size ≤ q) (hA2 : ∀ q, nb_A xm_sh ad2 q → s.heap.size ≤ q) (hd : ∀ i j, i < xc_sh.length → j < xm_sh.length → ad1 i ≠ ad2 j) (hZ1 : xc_Z (nb_A xc_sh ad1) tb s s.heap) {i : Nat} (hi : i + 4 ≤ L) {N : Nat} {r : Int32} {σ τ σo τo : nb_St} (h1 : fX7_shame N σ (xs (nI i + (1 : Int32)).toNatClampNeg) (xs (nI i + (2 : Int32)).toNatClampNeg) = some (r, σo)) (h2 : fX8_shame N τ (xs (nI i + (1 : Int32)).toNatClampNeg) (xs (nI i + (2 : Int32)).toNatClampNeg) = some (r, τo)) {H : Heap} {locs : List Loc} {ls : Array Slot} (hP1 : va_P D vwCl (nb_cs xc_sh ad1 cA σ) H) (hP2 : va_P D vwCl (nb_cs xm_sh ad2 cA τ) H) (hS : va_S (fun q : Nat => s.heap.size ≤ q) s.heap H locs) (hl : lv_has ls 4 [(0, .ref b), (1, .ref (ad1 0)), (2, .ref (ad2 0)), (3, .int (nI i))]) (hnext : ∀ (H : Heap) (locs : List Loc) (ls : Array Slot), va_P D vwCl (nb_cs xc_sh ad1 cA σo) H → va_P D vwCl (nb_cs xm_sh ad2 cA τo) H → va_S (fun q : Nat => s.heap.size ≤ q) s.heap H locs → lv_has ls 4 [(0, .ref b), (1, .ref (ad1 0)), (2, .ref (ad2 0)), (3, .int (nI i))] → W p l e room_1 s m #[Value.ref b] below meth c H locs 111 1570 (lw_Z below #[Value.ref b] s) (F0 m 924 ls [])) : W p l e room_1 s m #[Value.ref b] below meth c H locs 111 1570 (lw_Z below #[Value.ref b] s) (F0 m 295 ls []) := by
  obtain ⟨hx, hb, hr, hml, hown, hts0, hX, hbl, hlocks, hgv⟩ := C0
  have hts : ∀ w ∈ xT, w.before #[Value.ref b] s = true := fun w h => hts0 w (List.mem_filter.mp h).1
  have hbA : ¬ (fun q : Nat => s.heap.size ≤ q) b := Nat.not_le.mpr hbl
  have hAd1 : ∀ a, a < s.heap.size → (fun q : Nat => s.heap.size ≤ q) a → nb_A xc_sh ad1 a := fun a h1 h2 => absurd h1 (Nat.not_lt.mpr h2)
  have hAd2 : ∀ a, a < s.heap.size → (fun q : Nat => s.heap.size ≤ q) a → nb_A xm_sh ad2 a := fun a h1 h2 => absurd h1 (Nat.not_lt.mpr h2)
  have hin1 : vp_in (nI i + (1 : Int32)) L := by rw [show nI i + (1 : Int32) = nI (i + 1) from nI_add i 1]; exact vp_in_nI (by omega) (by omega)
  have hin2 : vp_in (nI i + (2 : Int32)) L := by rw [show nI i + (2 : Int32) = nI (i + 2) from nI_add i 2]; exact vp_in_nI (by omega) (by omega)
  have hin3 : vp_in (nI i + (3 : Int32)) L := by rw [show nI i + (3 : Int32) = nI (i + 3) from nI_add i 3]; exact vp_in_nI (by omega) (by omega)
  refine lv_aload_n hx hb dL_law_295 rfl (lv_at hl 1 rfl) ?_
  refine lv_aload_n hx hb dL_law_296 rfl (lv_at hl 0 rfl) ?_
  refine lv_iload_n hx hb dL_law_297 rfl (lv_at hl 3 rfl) ?_
  refine lv_iconst (v := (1 : Int32)) hx hb dL_law_298 (by decide) ?_
  refine lv_iadd hx hb dL_law_299 ?_
  refine va_sld hx hb hX hbl hbA hS hin1 dL_law_300 ?_
  refine lv_aload_n hx hb dL_law_301 rfl (lv_at hl 0 rfl) ?_
  refine lv_iload_n hx hb dL_law_302 rfl (lv_at hl 3 rfl) ?_
  refine lv_iconst (v := (2 : Int32)) hx hb dL_law_303 (by decide) ?_
  refine lv_iadd hx hb dL_law_304 ?_
  refine va_sld hx hb hX hbl hbA hS hin2 dL_law_305 ?_
  refine nl_ci (G := (D, ad1, cA)) hS hA1 (va_runV (As := [.int (xs (nI i + (1 : Int32)).toNatClampNeg), .int (xs (nI i + (2 : Int32)).toNatClampNeg)]) (rest := []) ⟨hx, hb, hml, hown, hts⟩ (c_X7_shame l (G := (D, ad1, cA)) (tb := tb) hi1 xc_Zok (N := N) h1) (cwV 2 hts (xg_V tw3_36 tw3_37 tw3_38 tw1_1 tw3_39) rfl rfl rfl (by decide +kernel) ⟨Nat.le_of_ble_eq_true rfl, Nat.le_of_ble_eq_true rfl⟩) (nl_preV (G := (D, ad1, cA)) hK hZ1 xc_Zok hP1 hS hAd1 (k := 0) rfl rfl) rfl rfl hl.1 rfl (lv_room (Nat.le_of_ble_eq_true rfl)) dL_law_306 ⟨Nat.le_of_ble_eq_true rfl, Nat.le_of_ble_eq_true rfl⟩) (fun H locs hP1 hk hS => ?_)
  have hP1 : va_P D vwCl (nb_cs xc_sh ad1 cA σo) H := hP1
  have hP2 := nb_keep (sh := xc_sh) (ad := ad1) hP2 hd hk
  refine lv_aload_n hx hb dL_law_309 rfl (lv_at hl 2 rfl) ?_
  refine lv_aload_n hx hb dL_law_310 rfl (lv_at hl 0 rfl) ?_
  refine lv_iload_n hx hb dL_law_311 rfl (lv_at hl 3 rfl) ?_
  refine lv_iconst (v := (1 : Int32)) hx hb dL_law_312 (by decide) ?_
  refine lv_iadd hx hb dL_law_313 ?_
  refine va_sld hx hb hX hbl hbA hS hin1 dL_law_314 ?_
  refine lv_aload_n hx hb dL_law_315 rfl (lv_at hl 0 rfl) ?_
  refine lv_iload_n hx hb dL_law_316 rfl (lv_at hl 3 rfl) ?_
  refine lv_iconst (v := (2 : Int32)) hx hb dL_law_317 (by decide) ?_
  refine lv_iadd hx hb dL_law_318 ?_
  refine va_sld hx hb hX hbl hbA hS hin2 dL_law_319 ?_
  refine nl_ci (G := (D, ad2, cA)) hS hA2 (va_runV (As := [.int (xs (nI i + (1 : Int32)).toNatClampNeg), .int (xs (nI i + (2 : Int32)).toNatClampNeg)]) (rest := [.int r]) ⟨hx, hb, hml, hown, hts⟩ (c_X8_shame l (G := (D, ad2, cA)) (Z := fun _ _ => True) hi2 nb_Tok (N := N) h2) (cwV 2 hts (xg_V tw5_69 tw5_70 tw5_71 tw1_10 tw5_72) rfl rfl rfl (by decide +kernel) ⟨Nat.le_of_ble_eq_true rfl, Nat.le_of_ble_eq_true rfl⟩) (nl_preV (G := (D, ad2, cA)) (Z := fun _ _ => True) hK trivial nb_Tok hP2 hS hAd2 (k := 0) rfl rfl) rfl rfl hl.1 rfl (lv_room (Nat.le_of_ble_eq_true rfl)) dL_law_320 ⟨Nat.le_of_ble_eq_true rfl, Nat.le_of_ble_eq_true rfl⟩) (fun H locs hP2 hk hS => ?_)
  have hP2 : va_P D vwCl (nb_cs xm_sh ad2 cA τo) H := hP2
  have hP1 := nb_keep (sh := xm_sh) (ad := ad2) hP1 (fun i j g1 g2 e => hd j i g2 g1 e.symm) hk
  refine lv_icmp_eq (tgt := 924) hx hb dL_law_323 (by decide) (fun c1 => ?_) (fun c1 => absurd rfl c1)
  exact hnext _ _ _ hP1 hP2 hS hl
set_option maxHeartbeats 4000000 in
set_option maxRecDepth 100000 in
theorem lc_presses {p : Program} {l : Launch} {e : Env} {s : State} {m : MethodId} {below : List Frame} {meth : Method} {c : Code} {D : va_G} {cA : Nat → ClassId} {ad1 ad2 tb : Nat → Nat} {b L : Nat} {xs : Nat → Int32} (hL : L ≤ 2048) (C0 : lw_At p s m meth c b L xs) (hK : va_K D vwCl (nb_ty cA) s) (hi1 : nb_inj xc_sh ad1) (hi2 : nb_inj xm_sh ad2) (hA1 : ∀ q, nb_A xc_sh ad1 q → s.heap.size ≤ q) (hA2 : ∀ q, nb_A xm_sh ad2 q → s.heap.size ≤ q) (hd : ∀ i j, i < xc_sh.length → j < xm_sh.length → ad1 i ≠ ad2 j) (hZ1 : xc_Z (nb_A xc_sh ad1) tb s s.heap) {i : Nat} (hi : i + 4 ≤ L) {N : Nat} {r : Int32} {σ τ σo τo : nb_St} (h1 : fX7_presses N σ (xs (nI i + (1 : Int32)).toNatClampNeg) (xs (nI i + (2 : Int32)).toNatClampNeg) = some (r, σo)) (h2 : fX8_presses N τ (xs (nI i + (1 : Int32)).toNatClampNeg) (xs (nI i + (2 : Int32)).toNatClampNeg) = some (r, τo)) {H : Heap} {locs : List Loc} {ls : Array Slot} (hP1 : va_P D vwCl (nb_cs xc_sh ad1 cA σ) H) (hP2 : va_P D vwCl (nb_cs xm_sh ad2 cA τ) H) (hS : va_S (fun q : Nat => s.heap.size ≤ q) s.heap H locs) (hl : lv_has ls 4 [(0, .ref b), (1, .ref (ad1 0)), (2, .ref (ad2 0)), (3, .int (nI i))]) (hnext : ∀ (H : Heap) (locs : List Loc) (ls : Array Slot), va_P D vwCl (nb_cs xc_sh ad1 cA σo) H → va_P D vwCl (nb_cs xm_sh ad2 cA τo) H → va_S (fun q : Nat => s.heap.size ≤ q) s.heap H locs → lv_has ls 4 [(0, .ref b), (1, .ref (ad1 0)), (2, .ref (ad2 0)), (3, .int (nI i))] → W p l e room_1 s m #[Value.ref b] below meth c H locs 111 1570 (lw_Z below #[Value.ref b] s) (F0 m 924 ls [])) : W p l e room_1 s m #[Value.ref b] below meth c H locs 111 1570 (lw_Z below #[Value.ref b] s) (F0 m 328 ls []) := by
  obtain ⟨hx, hb, hr, hml, hown, hts0, hX, hbl, hlocks, hgv⟩ := C0
  have hts : ∀ w ∈ xT, w.before #[Value.ref b] s = true := fun w h => hts0 w (List.mem_filter.mp h).1
  have hbA : ¬ (fun q : Nat => s.heap.size ≤ q) b := Nat.not_le.mpr hbl
  have hAd1 : ∀ a, a < s.heap.size → (fun q : Nat => s.heap.size ≤ q) a → nb_A xc_sh ad1 a := fun a h1 h2 => absurd h1 (Nat.not_lt.mpr h2)
  have hAd2 : ∀ a, a < s.heap.size → (fun q : Nat => s.heap.size ≤ q) a → nb_A xm_sh ad2 a := fun a h1 h2 => absurd h1 (Nat.not_lt.mpr h2)
  have hin1 : vp_in (nI i + (1 : Int32)) L := by rw [show nI i + (1 : Int32) = nI (i + 1) from nI_add i 1]; exact vp_in_nI (by omega) (by omega)
  have hin2 : vp_in (nI i + (2 : Int32)) L := by rw [show nI i + (2 : Int32) = nI (i + 2) from nI_add i 2]; exact vp_in_nI (by omega) (by omega)
  have hin3 : vp_in (nI i + (3 : Int32)) L := by rw [show nI i + (3 : Int32) = nI (i + 3) from nI_add i 3]; exact vp_in_nI (by omega) (by omega)
  refine lv_aload_n hx hb dL_law_328 rfl (lv_at hl 1 rfl) ?_
  refine lv_aload_n hx hb dL_law_329 rfl (lv_at hl 0 rfl) ?_
  refine lv_iload_n hx hb dL_law_330 rfl (lv_at hl 3 rfl) ?_
  refine lv_iconst (v := (1 : Int32)) hx hb dL_law_331 (by decide) ?_
  refine lv_iadd hx hb dL_law_332 ?_
  refine va_sld hx hb hX hbl hbA hS hin1 dL_law_333 ?_
  refine lv_aload_n hx hb dL_law_334 rfl (lv_at hl 0 rfl) ?_
  refine lv_iload_n hx hb dL_law_335 rfl (lv_at hl 3 rfl) ?_
  refine lv_iconst (v := (2 : Int32)) hx hb dL_law_336 (by decide) ?_
  refine lv_iadd hx hb dL_law_337 ?_
  refine va_sld hx hb hX hbl hbA hS hin2 dL_law_338 ?_
  refine nl_ci (G := (D, ad1, cA)) hS hA1 (va_runV (As := [.int (xs (nI i + (1 : Int32)).toNatClampNeg), .int (xs (nI i + (2 : Int32)).toNatClampNeg)]) (rest := []) ⟨hx, hb, hml, hown, hts⟩ (c_X7_presses l (G := (D, ad1, cA)) (tb := tb) hi1 xc_Zok (N := N) h1) (cwV 2 hts (xg_V tw3_94 tw3_95 tw3_96 tw1_1 tw3_97) rfl rfl rfl (by decide +kernel) ⟨Nat.le_of_ble_eq_true rfl, Nat.le_of_ble_eq_true rfl⟩) (nl_preV (G := (D, ad1, cA)) hK hZ1 xc_Zok hP1 hS hAd1 (k := 0) rfl rfl) rfl rfl hl.1 rfl (lv_room (Nat.le_of_ble_eq_true rfl)) dL_law_339 ⟨Nat.le_of_ble_eq_true rfl, Nat.le_of_ble_eq_true rfl⟩) (fun H locs hP1 hk hS => ?_)
  have hP1 : va_P D vwCl (nb_cs xc_sh ad1 cA σo) H := hP1
  have hP2 := nb_keep (sh := xc_sh) (ad := ad1) hP2 hd hk
  refine lv_aload_n hx hb dL_law_342 rfl (lv_at hl 2 rfl) ?_
  refine lv_aload_n hx hb dL_law_343 rfl (lv_at hl 0 rfl) ?_
  refine lv_iload_n hx hb dL_law_344 rfl (lv_at hl 3 rfl) ?_
  refine lv_iconst (v := (1 : Int32)) hx hb dL_law_345 (by decide) ?_
  refine lv_iadd hx hb dL_law_346 ?_
  refine va_sld hx hb hX hbl hbA hS hin1 dL_law_347 ?_
  refine lv_aload_n hx hb dL_law_348 rfl (lv_at hl 0 rfl) ?_
  refine lv_iload_n hx hb dL_law_349 rfl (lv_at hl 3 rfl) ?_
  refine lv_iconst (v := (2 : Int32)) hx hb dL_law_350 (by decide) ?_
  refine lv_iadd hx hb dL_law_351 ?_
  refine va_sld hx hb hX hbl hbA hS hin2 dL_law_352 ?_
  refine nl_ci (G := (D, ad2, cA)) hS hA2 (va_runV (As := [.int (xs (nI i + (1 : Int32)).toNatClampNeg), .int (xs (nI i + (2 : Int32)).toNatClampNeg)]) (rest := [.int r]) ⟨hx, hb, hml, hown, hts⟩ (c_X8_presses l (G := (D, ad2, cA)) (Z := fun _ _ => True) hi2 nb_Tok (N := N) h2) (cwV 2 hts (xg_V tw5_123 tw5_124 tw5_125 tw1_10 tw5_126) rfl rfl rfl (by decide +kernel) ⟨Nat.le_of_ble_eq_true rfl, Nat.le_of_ble_eq_true rfl⟩) (nl_preV (G := (D, ad2, cA)) (Z := fun _ _ => True) hK trivial nb_Tok hP2 hS hAd2 (k := 0) rfl rfl) rfl rfl hl.1 rfl (lv_room (Nat.le_of_ble_eq_true rfl)) dL_law_353 ⟨Nat.le_of_ble_eq_true rfl, Nat.le_of_ble_eq_true rfl⟩) (fun H locs hP2 hk hS => ?_)
  have hP2 : va_P D vwCl (nb_cs xm_sh ad2 cA τo) H := hP2
  have hP1 := nb_keep (sh := xm_sh) (ad := ad2) hP1 (fun i j g1 g2 e => hd j i g2 g1 e.symm) hk
  refine lv_icmp_eq (tgt := 924) hx hb dL_law_356 (by decide) (fun c1 => ?_) (fun c1 => absurd rfl c1)
  exact hnext _ _ _ hP1 hP2 hS hl
set_option maxHeartbeats 4000000 in
set_option maxRecDepth 100000 in
theorem lc_is {p : Program} {l : Launch} {e : Env} {s : State} {m : MethodId} {below : List Frame} {meth : Method} {c : Code} {D : va_G} {cA : Nat → ClassId} {ad1 ad2 tb : Nat → Nat} {b L : Nat} {xs : Nat → Int32} (hL : L ≤ 2048) (C0 : lw_At p s m meth c b L xs) (hK : va_K D vwCl (nb_ty cA) s) (hi1 : nb_inj xc_sh ad1) (hi2 : nb_inj xm_sh ad2) (hA1 : ∀ q, nb_A xc_sh ad1 q → s.heap.size ≤ q) (hA2 : ∀ q, nb_A xm_sh ad2 q → s.heap.size ≤ q) (hd : ∀ i j, i < xc_sh.length → j < xm_sh.length → ad1 i ≠ ad2 j) (hZ1 : xc_Z (nb_A xc_sh ad1) tb s s.heap) {i : Nat} (hi : i + 4 ≤ L) {N : Nat} {r : Int32} {σ τ σo τo : nb_St} (h1 : fX7_is N σ (xs (nI i + (1 : Int32)).toNatClampNeg) (xs (nI i + (2 : Int32)).toNatClampNeg) = some (r, σo)) (h2 : fX8_is N τ (xs (nI i + (1 : Int32)).toNatClampNeg) (xs (nI i + (2 : Int32)).toNatClampNeg) = some (r, τo)) {H : Heap} {locs : List Loc} {ls : Array Slot} (hP1 : va_P D vwCl (nb_cs xc_sh ad1 cA σ) H) (hP2 : va_P D vwCl (nb_cs xm_sh ad2 cA τ) H) (hS : va_S (fun q : Nat => s.heap.size ≤ q) s.heap H locs) (hl : lv_has ls 4 [(0, .ref b), (1, .ref (ad1 0)), (2, .ref (ad2 0)), (3, .int (nI i))]) (hnext : ∀ (H : Heap) (locs : List Loc) (ls : Array Slot), va_P D vwCl (nb_cs xc_sh ad1 cA σo) H → va_P D vwCl (nb_cs xm_sh ad2 cA τo) H → va_S (fun q : Nat => s.heap.size ≤ q) s.heap H locs → lv_has ls 4 [(0, .ref b), (1, .ref (ad1 0)), (2, .ref (ad2 0)), (3, .int (nI i))] → W p l e room_1 s m #[Value.ref b] below meth c H locs 111 1570 (lw_Z below #[Value.ref b] s) (F0 m 924 ls [])) : W p l e room_1 s m #[Value.ref b] below meth c H locs 111 1570 (lw_Z below #[Value.ref b] s) (F0 m 361 ls []) := by
  obtain ⟨hx, hb, hr, hml, hown, hts0, hX, hbl, hlocks, hgv⟩ := C0
  have hts : ∀ w ∈ xT, w.before #[Value.ref b] s = true := fun w h => hts0 w (List.mem_filter.mp h).1
  have hbA : ¬ (fun q : Nat => s.heap.size ≤ q) b := Nat.not_le.mpr hbl
  have hAd1 : ∀ a, a < s.heap.size → (fun q : Nat => s.heap.size ≤ q) a → nb_A xc_sh ad1 a := fun a h1 h2 => absurd h1 (Nat.not_lt.mpr h2)
  have hAd2 : ∀ a, a < s.heap.size → (fun q : Nat => s.heap.size ≤ q) a → nb_A xm_sh ad2 a := fun a h1 h2 => absurd h1 (Nat.not_lt.mpr h2)
  have hin1 : vp_in (nI i + (1 : Int32)) L := by rw [show nI i + (1 : Int32) = nI (i + 1) from nI_add i 1]; exact vp_in_nI (by omega) (by omega)
  have hin2 : vp_in (nI i + (2 : Int32)) L := by rw [show nI i + (2 : Int32) = nI (i + 2) from nI_add i 2]; exact vp_in_nI (by omega) (by omega)
  have hin3 : vp_in (nI i + (3 : Int32)) L := by rw [show nI i + (3 : Int32) = nI (i + 3) from nI_add i 3]; exact vp_in_nI (by omega) (by omega)
  refine lv_aload_n hx hb dL_law_361 rfl (lv_at hl 1 rfl) ?_
  refine lv_aload_n hx hb dL_law_362 rfl (lv_at hl 0 rfl) ?_
  refine lv_iload_n hx hb dL_law_363 rfl (lv_at hl 3 rfl) ?_
  refine lv_iconst (v := (1 : Int32)) hx hb dL_law_364 (by decide) ?_
  refine lv_iadd hx hb dL_law_365 ?_
  refine va_sld hx hb hX hbl hbA hS hin1 dL_law_366 ?_
  refine lv_aload_n hx hb dL_law_367 rfl (lv_at hl 0 rfl) ?_
  refine lv_iload_n hx hb dL_law_368 rfl (lv_at hl 3 rfl) ?_
  refine lv_iconst (v := (2 : Int32)) hx hb dL_law_369 (by decide) ?_
  refine lv_iadd hx hb dL_law_370 ?_
  refine va_sld hx hb hX hbl hbA hS hin2 dL_law_371 ?_
  refine nl_ci (G := (D, ad1, cA)) hS hA1 (va_runV (As := [.int (xs (nI i + (1 : Int32)).toNatClampNeg), .int (xs (nI i + (2 : Int32)).toNatClampNeg)]) (rest := []) ⟨hx, hb, hml, hown, hts⟩ (c_X7_is l (G := (D, ad1, cA)) (tb := tb) hi1 xc_Zok (N := N) h1) (cwV 2 hts (xg_V tw3_99 tw3_100 tw3_101 tw1_1 tw3_102) rfl rfl rfl (by decide +kernel) ⟨Nat.le_of_ble_eq_true rfl, Nat.le_of_ble_eq_true rfl⟩) (nl_preV (G := (D, ad1, cA)) hK hZ1 xc_Zok hP1 hS hAd1 (k := 0) rfl rfl) rfl rfl hl.1 rfl (lv_room (Nat.le_of_ble_eq_true rfl)) dL_law_372 ⟨Nat.le_of_ble_eq_true rfl, Nat.le_of_ble_eq_true rfl⟩) (fun H locs hP1 hk hS => ?_)
  have hP1 : va_P D vwCl (nb_cs xc_sh ad1 cA σo) H := hP1
  have hP2 := nb_keep (sh := xc_sh) (ad := ad1) hP2 hd hk
  refine lv_aload_n hx hb dL_law_375 rfl (lv_at hl 2 rfl) ?_
  refine lv_aload_n hx hb dL_law_376 rfl (lv_at hl 0 rfl) ?_
  refine lv_iload_n hx hb dL_law_377 rfl (lv_at hl 3 rfl) ?_
  refine lv_iconst (v := (1 : Int32)) hx hb dL_law_378 (by decide) ?_
  refine lv_iadd hx hb dL_law_379 ?_
  refine va_sld hx hb hX hbl hbA hS hin1 dL_law_380 ?_
  refine lv_aload_n hx hb dL_law_381 rfl (lv_at hl 0 rfl) ?_
  refine lv_iload_n hx hb dL_law_382 rfl (lv_at hl 3 rfl) ?_
  refine lv_iconst (v := (2 : Int32)) hx hb dL_law_383 (by decide) ?_
  refine lv_iadd hx hb dL_law_384 ?_
  refine va_sld hx hb hX hbl hbA hS hin2 dL_law_385 ?_
  refine nl_ci (G := (D, ad2, cA)) hS hA2 (va_runV (As := [.int (xs (nI i + (1 : Int32)).toNatClampNeg), .int (xs (nI i + (2 : Int32)).toNatClampNeg)]) (rest := [.int r]) ⟨hx, hb, hml, hown, hts⟩ (c_X8_is l (G := (D, ad2, cA)) (Z := fun _ _ => True) hi2 nb_Tok (N := N) h2) (cwV 2 hts (xg_V tw5_127 tw5_128 tw5_129 tw1_10 tw5_130) rfl rfl rfl (by decide +kernel) ⟨Nat.le_of_ble_eq_true rfl, Nat.le_of_ble_eq_true rfl⟩) (nl_preV (G := (D, ad2, cA)) (Z := fun _ _ => True) hK trivial nb_Tok hP2 hS hAd2 (k := 0) rfl rfl) rfl rfl hl.1 rfl (lv_room (Nat.le_of_ble_eq_true rfl)) dL_law_386 ⟨Nat.le_of_ble_eq_true rfl, Nat.le_of_ble_eq_true rfl⟩) (fun H locs hP2 hk hS => ?_)
  have hP2 : va_P D vwCl (nb_cs xm_sh ad2 cA τo) H := hP2
  have hP1 := nb_keep (sh := xm_sh) (ad := ad2) hP1 (fun i j g1 g2 e => hd j i g2 g1 e.symm) hk
  refine lv_icmp_eq (tgt := 924) hx hb dL_law_389 (by decide) (fun c1 => ?_) (fun c1 => absurd rfl c1)
  exact hnext _ _ _ hP1 hP2 hS hl
set_option maxHeartbeats 4000000 in
set_option maxRecDepth 100000 in
theorem lc_when {p : Program} {l : Launch} {e : Env} {s : State} {m : MethodId} {below : List Frame} {meth : Method} {c : Code} {D : va_G} {cA : Nat → ClassId} {ad1 ad2 tb : Nat → Nat} {b L : Nat} {xs : Nat → Int32} (hL : L ≤ 2048) (C0 : lw_At p s m meth c b L xs) (hK : va_K D vwCl (nb_ty cA) s) (hi1 : nb_inj xc_sh ad1) (hi2 : nb_inj xm_sh ad2) (hA1 : ∀ q, nb_A xc_sh ad1 q → s.heap.size ≤ q) (hA2 : ∀ q, nb_A xm_sh ad2 q → s.heap.size ≤ q) (hd : ∀ i j, i < xc_sh.length → j < xm_sh.length → ad1 i ≠ ad2 j) (hZ1 : xc_Z (nb_A xc_sh ad1) tb s s.heap) {i : Nat} (hi : i + 4 ≤ L) {N : Nat} {r : Int32} {σ τ σo τo : nb_St} (h1 : fX7_when N σ (xs (nI i + (1 : Int32)).toNatClampNeg) (xs (nI i + (2 : Int32)).toNatClampNeg) = some (r, σo)) (h2 : fX8_when N τ (xs (nI i + (1 : Int32)).toNatClampNeg) (xs (nI i + (2 : Int32)).toNatClampNeg) = some (r, τo)) {H : Heap} {locs : List Loc} {ls : Array Slot} (hP1 : va_P D vwCl (nb_cs xc_sh ad1 cA σ) H) (hP2 : va_P D vwCl (nb_cs xm_sh ad2 cA τ) H) (hS : va_S (fun q : Nat => s.heap.size ≤ q) s.heap H locs) (hl : lv_has ls 4 [(0, .ref b), (1, .ref (ad1 0)), (2, .ref (ad2 0)), (3, .int (nI i))]) (hnext : ∀ (H : Heap) (locs : List Loc) (ls : Array Slot), va_P D vwCl (nb_cs xc_sh ad1 cA σo) H → va_P D vwCl (nb_cs xm_sh ad2 cA τo) H → va_S (fun q : Nat => s.heap.size ≤ q) s.heap H locs → lv_has ls 4 [(0, .ref b), (1, .ref (ad1 0)), (2, .ref (ad2 0)), (3, .int (nI i))] → W p l e room_1 s m #[Value.ref b] below meth c H locs 111 1570 (lw_Z below #[Value.ref b] s) (F0 m 924 ls [])) : W p l e room_1 s m #[Value.ref b] below meth c H locs 111 1570 (lw_Z below #[Value.ref b] s) (F0 m 394 ls []) := by
  obtain ⟨hx, hb, hr, hml, hown, hts0, hX, hbl, hlocks, hgv⟩ := C0
  have hts : ∀ w ∈ xT, w.before #[Value.ref b] s = true := fun w h => hts0 w (List.mem_filter.mp h).1
  have hbA : ¬ (fun q : Nat => s.heap.size ≤ q) b := Nat.not_le.mpr hbl
  have hAd1 : ∀ a, a < s.heap.size → (fun q : Nat => s.heap.size ≤ q) a → nb_A xc_sh ad1 a := fun a h1 h2 => absurd h1 (Nat.not_lt.mpr h2)
  have hAd2 : ∀ a, a < s.heap.size → (fun q : Nat => s.heap.size ≤ q) a → nb_A xm_sh ad2 a := fun a h1 h2 => absurd h1 (Nat.not_lt.mpr h2)
  have hin1 : vp_in (nI i + (1 : Int32)) L := by rw [show nI i + (1 : Int32) = nI (i + 1) from nI_add i 1]; exact vp_in_nI (by omega) (by omega)
  have hin2 : vp_in (nI i + (2 : Int32)) L := by rw [show nI i + (2 : Int32) = nI (i + 2) from nI_add i 2]; exact vp_in_nI (by omega) (by omega)
  have hin3 : vp_in (nI i + (3 : Int32)) L := by rw [show nI i + (3 : Int32) = nI (i + 3) from nI_add i 3]; exact vp_in_nI (by omega) (by omega)
  refine lv_aload_n hx hb dL_law_394 rfl (lv_at hl 1 rfl) ?_
  refine lv_aload_n hx hb dL_law_395 rfl (lv_at hl 0 rfl) ?_
  refine lv_iload_n hx hb dL_law_396 rfl (lv_at hl 3 rfl) ?_
  refine lv_iconst (v := (1 : Int32)) hx hb dL_law_397 (by decide) ?_
  refine lv_iadd hx hb dL_law_398 ?_
  refine va_sld hx hb hX hbl hbA hS hin1 dL_law_399 ?_
  refine lv_aload_n hx hb dL_law_400 rfl (lv_at hl 0 rfl) ?_
  refine lv_iload_n hx hb dL_law_401 rfl (lv_at hl 3 rfl) ?_
  refine lv_iconst (v := (2 : Int32)) hx hb dL_law_402 (by decide) ?_
  refine lv_iadd hx hb dL_law_403 ?_
  refine va_sld hx hb hX hbl hbA hS hin2 dL_law_404 ?_
  refine nl_ci (G := (D, ad1, cA)) hS hA1 (va_runV (As := [.int (xs (nI i + (1 : Int32)).toNatClampNeg), .int (xs (nI i + (2 : Int32)).toNatClampNeg)]) (rest := []) ⟨hx, hb, hml, hown, hts⟩ (c_X7_when l (G := (D, ad1, cA)) (tb := tb) hi1 xc_Zok (N := N) h1) (cwV 2 hts (xg_V tw3_111 tw3_112 tw3_113 tw1_1 tw3_114) rfl rfl rfl (by decide +kernel) ⟨Nat.le_of_ble_eq_true rfl, Nat.le_of_ble_eq_true rfl⟩) (nl_preV (G := (D, ad1, cA)) hK hZ1 xc_Zok hP1 hS hAd1 (k := 0) rfl rfl) rfl rfl hl.1 rfl (lv_room (Nat.le_of_ble_eq_true rfl)) dL_law_405 ⟨Nat.le_of_ble_eq_true rfl, Nat.le_of_ble_eq_true rfl⟩) (fun H locs hP1 hk hS => ?_)
  have hP1 : va_P D vwCl (nb_cs xc_sh ad1 cA σo) H := hP1
  have hP2 := nb_keep (sh := xc_sh) (ad := ad1) hP2 hd hk
  refine lv_aload_n hx hb dL_law_408 rfl (lv_at hl 2 rfl) ?_
  refine lv_aload_n hx hb dL_law_409 rfl (lv_at hl 0 rfl) ?_
  refine lv_iload_n hx hb dL_law_410 rfl (lv_at hl 3 rfl) ?_
  refine lv_iconst (v := (1 : Int32)) hx hb dL_law_411 (by decide) ?_
  refine lv_iadd hx hb dL_law_412 ?_
  refine va_sld hx hb hX hbl hbA hS hin1 dL_law_413 ?_
  refine lv_aload_n hx hb dL_law_414 rfl (lv_at hl 0 rfl) ?_
  refine lv_iload_n hx hb dL_law_415 rfl (lv_at hl 3 rfl) ?_
  refine lv_iconst (v := (2 : Int32)) hx hb dL_law_416 (by decide) ?_
  refine lv_iadd hx hb dL_law_417 ?_
  refine va_sld hx hb hX hbl hbA hS hin2 dL_law_418 ?_
  refine nl_ci (G := (D, ad2, cA)) hS hA2 (va_runV (As := [.int (xs (nI i + (1 : Int32)).toNatClampNeg), .int (xs (nI i + (2 : Int32)).toNatClampNeg)]) (rest := [.int r]) ⟨hx, hb, hml, hown, hts⟩ (c_X8_when l (G := (D, ad2, cA)) (Z := fun _ _ => True) hi2 nb_Tok (N := N) h2) (cwV 2 hts (xg_V tw5_132 tw5_133 tw5_134 tw1_10 tw5_135) rfl rfl rfl (by decide +kernel) ⟨Nat.le_of_ble_eq_true rfl, Nat.le_of_ble_eq_true rfl⟩) (nl_preV (G := (D, ad2, cA)) (Z := fun _ _ => True) hK trivial nb_Tok hP2 hS hAd2 (k := 0) rfl rfl) rfl rfl hl.1 rfl (lv_room (Nat.le_of_ble_eq_true rfl)) dL_law_419 ⟨Nat.le_of_ble_eq_true rfl, Nat.le_of_ble_eq_true rfl⟩) (fun H locs hP2 hk hS => ?_)
  have hP2 : va_P D vwCl (nb_cs xm_sh ad2 cA τo) H := hP2
  have hP1 := nb_keep (sh := xm_sh) (ad := ad2) hP1 (fun i j g1 g2 e => hd j i g2 g1 e.symm) hk
  refine lv_icmp_eq (tgt := 924) hx hb dL_law_422 (by decide) (fun c1 => ?_) (fun c1 => absurd rfl c1)
  exact hnext _ _ _ hP1 hP2 hS hl
set_option maxHeartbeats 4000000 in
set_option maxRecDepth 100000 in
theorem lc_wasted {p : Program} {l : Launch} {e : Env} {s : State} {m : MethodId} {below : List Frame} {meth : Method} {c : Code} {D : va_G} {cA : Nat → ClassId} {ad1 ad2 tb : Nat → Nat} {b L : Nat} {xs : Nat → Int32} (hL : L ≤ 2048) (C0 : lw_At p s m meth c b L xs) (hK : va_K D vwCl (nb_ty cA) s) (hi1 : nb_inj xc_sh ad1) (hi2 : nb_inj xm_sh ad2) (hA1 : ∀ q, nb_A xc_sh ad1 q → s.heap.size ≤ q) (hA2 : ∀ q, nb_A xm_sh ad2 q → s.heap.size ≤ q) (hd : ∀ i j, i < xc_sh.length → j < xm_sh.length → ad1 i ≠ ad2 j) (hZ1 : xc_Z (nb_A xc_sh ad1) tb s s.heap) {i : Nat} (hi : i + 4 ≤ L) {N : Nat} {r : Int32} {σ τ σo τo : nb_St} (h1 : fX7_wasted N σ (xs (nI i + (1 : Int32)).toNatClampNeg) = some (r, σo)) (h2 : fX8_wasted N τ (xs (nI i + (1 : Int32)).toNatClampNeg) = some (r, τo)) {H : Heap} {locs : List Loc} {ls : Array Slot} (hP1 : va_P D vwCl (nb_cs xc_sh ad1 cA σ) H) (hP2 : va_P D vwCl (nb_cs xm_sh ad2 cA τ) H) (hS : va_S (fun q : Nat => s.heap.size ≤ q) s.heap H locs) (hl : lv_has ls 4 [(0, .ref b), (1, .ref (ad1 0)), (2, .ref (ad2 0)), (3, .int (nI i))]) (hnext : ∀ (H : Heap) (locs : List Loc) (ls : Array Slot), va_P D vwCl (nb_cs xc_sh ad1 cA σo) H → va_P D vwCl (nb_cs xm_sh ad2 cA τo) H → va_S (fun q : Nat => s.heap.size ≤ q) s.heap H locs → lv_has ls 4 [(0, .ref b), (1, .ref (ad1 0)), (2, .ref (ad2 0)), (3, .int (nI i))] → W p l e room_1 s m #[Value.ref b] below meth c H locs 111 1570 (lw_Z below #[Value.ref b] s) (F0 m 924 ls [])) : W p l e room_1 s m #[Value.ref b] below meth c H locs 111 1570 (lw_Z below #[Value.ref b] s) (F0 m 427 ls []) := by
  obtain ⟨hx, hb, hr, hml, hown, hts0, hX, hbl, hlocks, hgv⟩ := C0
  have hts : ∀ w ∈ xT, w.before #[Value.ref b] s = true := fun w h => hts0 w (List.mem_filter.mp h).1
  have hbA : ¬ (fun q : Nat => s.heap.size ≤ q) b := Nat.not_le.mpr hbl
  have hAd1 : ∀ a, a < s.heap.size → (fun q : Nat => s.heap.size ≤ q) a → nb_A xc_sh ad1 a := fun a h1 h2 => absurd h1 (Nat.not_lt.mpr h2)
  have hAd2 : ∀ a, a < s.heap.size → (fun q : Nat => s.heap.size ≤ q) a → nb_A xm_sh ad2 a := fun a h1 h2 => absurd h1 (Nat.not_lt.mpr h2)
  have hin1 : vp_in (nI i + (1 : Int32)) L := by rw [show nI i + (1 : Int32) = nI (i + 1) from nI_add i 1]; exact vp_in_nI (by omega) (by omega)
  have hin2 : vp_in (nI i + (2 : Int32)) L := by rw [show nI i + (2 : Int32) = nI (i + 2) from nI_add i 2]; exact vp_in_nI (by omega) (by omega)
  have hin3 : vp_in (nI i + (3 : Int32)) L := by rw [show nI i + (3 : Int32) = nI (i + 3) from nI_add i 3]; exact vp_in_nI (by omega) (by omega)
  refine lv_aload_n hx hb dL_law_427 rfl (lv_at hl 1 rfl) ?_
  refine lv_aload_n hx hb dL_law_428 rfl (lv_at hl 0 rfl) ?_
  refine lv_iload_n hx hb dL_law_429 rfl (lv_at hl 3 rfl) ?_
  refine lv_iconst (v := (1 : Int32)) hx hb dL_law_430 (by decide) ?_
  refine lv_iadd hx hb dL_law_431 ?_
  refine va_sld hx hb hX hbl hbA hS hin1 dL_law_432 ?_
  refine nl_ci (G := (D, ad1, cA)) hS hA1 (va_runV (As := [.int (xs (nI i + (1 : Int32)).toNatClampNeg)]) (rest := []) ⟨hx, hb, hml, hown, hts⟩ (c_X7_wasted l (G := (D, ad1, cA)) (tb := tb) hi1 xc_Zok (N := N) h1) (cwV 1 hts (xg_V tw3_115 tw3_116 tw3_117 tw1_1 tw3_118) rfl rfl rfl (by decide +kernel) ⟨Nat.le_of_ble_eq_true rfl, Nat.le_of_ble_eq_true rfl⟩) (nl_preV (G := (D, ad1, cA)) hK hZ1 xc_Zok hP1 hS hAd1 (k := 0) rfl rfl) rfl rfl hl.1 rfl (lv_room (Nat.le_of_ble_eq_true rfl)) dL_law_433 ⟨Nat.le_of_ble_eq_true rfl, Nat.le_of_ble_eq_true rfl⟩) (fun H locs hP1 hk hS => ?_)
  have hP1 : va_P D vwCl (nb_cs xc_sh ad1 cA σo) H := hP1
  have hP2 := nb_keep (sh := xc_sh) (ad := ad1) hP2 hd hk
  refine lv_aload_n hx hb dL_law_436 rfl (lv_at hl 2 rfl) ?_
  refine lv_aload_n hx hb dL_law_437 rfl (lv_at hl 0 rfl) ?_
  refine lv_iload_n hx hb dL_law_438 rfl (lv_at hl 3 rfl) ?_
  refine lv_iconst (v := (1 : Int32)) hx hb dL_law_439 (by decide) ?_
  refine lv_iadd hx hb dL_law_440 ?_
  refine va_sld hx hb hX hbl hbA hS hin1 dL_law_441 ?_
  refine nl_ci (G := (D, ad2, cA)) hS hA2 (va_runV (As := [.int (xs (nI i + (1 : Int32)).toNatClampNeg)]) (rest := [.int r]) ⟨hx, hb, hml, hown, hts⟩ (c_X8_wasted l (G := (D, ad2, cA)) (Z := fun _ _ => True) hi2 nb_Tok (N := N) h2) (cwV 1 hts (xg_V tw5_136 tw5_137 tw5_138 tw1_10 tw5_139) rfl rfl rfl (by decide +kernel) ⟨Nat.le_of_ble_eq_true rfl, Nat.le_of_ble_eq_true rfl⟩) (nl_preV (G := (D, ad2, cA)) (Z := fun _ _ => True) hK trivial nb_Tok hP2 hS hAd2 (k := 0) rfl rfl) rfl rfl hl.1 rfl (lv_room (Nat.le_of_ble_eq_true rfl)) dL_law_442 ⟨Nat.le_of_ble_eq_true rfl, Nat.le_of_ble_eq_true rfl⟩) (fun H locs hP2 hk hS => ?_)
  have hP2 : va_P D vwCl (nb_cs xm_sh ad2 cA τo) H := hP2
  have hP1 := nb_keep (sh := xm_sh) (ad := ad2) hP1 (fun i j g1 g2 e => hd j i g2 g1 e.symm) hk
  refine lv_icmp_eq (tgt := 924) hx hb dL_law_445 (by decide) (fun c1 => ?_) (fun c1 => absurd rfl c1)
  exact hnext _ _ _ hP1 hP2 hS hl
set_option maxHeartbeats 4000000 in
set_option maxRecDepth 100000 in
theorem lc_frees {p : Program} {l : Launch} {e : Env} {s : State} {m : MethodId} {below : List Frame} {meth : Method} {c : Code} {D : va_G} {cA : Nat → ClassId} {ad1 ad2 tb : Nat → Nat} {b L : Nat} {xs : Nat → Int32} (hL : L ≤ 2048) (C0 : lw_At p s m meth c b L xs) (hK : va_K D vwCl (nb_ty cA) s) (hi1 : nb_inj xc_sh ad1) (hi2 : nb_inj xm_sh ad2) (hA1 : ∀ q, nb_A xc_sh ad1 q → s.heap.size ≤ q) (hA2 : ∀ q, nb_A xm_sh ad2 q → s.heap.size ≤ q) (hd : ∀ i j, i < xc_sh.length → j < xm_sh.length → ad1 i ≠ ad2 j) (hZ1 : xc_Z (nb_A xc_sh ad1) tb s s.heap) {i : Nat} (hi : i + 4 ≤ L) {N : Nat} {r : Int32} {σ τ σo τo : nb_St} (h1 : fX7_frees N σ (xs (nI i + (1 : Int32)).toNatClampNeg) (xs (nI i + (2 : Int32)).toNatClampNeg) = some (r, σo)) (h2 : fX8_frees N τ (xs (nI i + (1 : Int32)).toNatClampNeg) (xs (nI i + (2 : Int32)).toNatClampNeg) = some (r, τo)) {H : Heap} {locs : List Loc} {ls : Array Slot} (hP1 : va_P D vwCl (nb_cs xc_sh ad1 cA σ) H) (hP2 : va_P D vwCl (nb_cs xm_sh ad2 cA τ) H) (hS : va_S (fun q : Nat => s.heap.size ≤ q) s.heap H locs) (hl : lv_has ls 4 [(0, .ref b), (1, .ref (ad1 0)), (2, .ref (ad2 0)), (3, .int (nI i))]) (hnext : ∀ (H : Heap) (locs : List Loc) (ls : Array Slot), va_P D vwCl (nb_cs xc_sh ad1 cA σo) H → va_P D vwCl (nb_cs xm_sh ad2 cA τo) H → va_S (fun q : Nat => s.heap.size ≤ q) s.heap H locs → lv_has ls 4 [(0, .ref b), (1, .ref (ad1 0)), (2, .ref (ad2 0)), (3, .int (nI i))] → W p l e room_1 s m #[Value.ref b] below meth c H locs 111 1570 (lw_Z below #[Value.ref b] s) (F0 m 924 ls [])) : W p l e room_1 s m #[Value.ref b] below meth c H locs 111 1570 (lw_Z below #[Value.ref b] s) (F0 m 450 ls []) := by
  obtain ⟨hx, hb, hr, hml, hown, hts0, hX, hbl, hlocks, hgv⟩ := C0
  have hts : ∀ w ∈ xT, w.before #[Value.ref b] s = true := fun w h => hts0 w (List.mem_filter.mp h).1
  have hbA : ¬ (fun q : Nat => s.heap.size ≤ q) b := Nat.not_le.mpr hbl
  have hAd1 : ∀ a, a < s.heap.size → (fun q : Nat => s.heap.size ≤ q) a → nb_A xc_sh ad1 a := fun a h1 h2 => absurd h1 (Nat.not_lt.mpr h2)
  have hAd2 : ∀ a, a < s.heap.size → (fun q : Nat => s.heap.size ≤ q) a → nb_A xm_sh ad2 a := fun a h1 h2 => absurd h1 (Nat.not_lt.mpr h2)
  have hin1 : vp_in (nI i + (1 : Int32)) L := by rw [show nI i + (1 : Int32) = nI (i + 1) from nI_add i 1]; exact vp_in_nI (by omega) (by omega)
  have hin2 : vp_in (nI i + (2 : Int32)) L := by rw [show nI i + (2 : Int32) = nI (i + 2) from nI_add i 2]; exact vp_in_nI (by omega) (by omega)
  have hin3 : vp_in (nI i + (3 : Int32)) L := by rw [show nI i + (3 : Int32) = nI (i + 3) from nI_add i 3]; exact vp_in_nI (by omega) (by omega)
  refine lv_aload_n hx hb dL_law_450 rfl (lv_at hl 1 rfl) ?_
  refine lv_aload_n hx hb dL_law_451 rfl (lv_at hl 0 rfl) ?_
  refine lv_iload_n hx hb dL_law_452 rfl (lv_at hl 3 rfl) ?_
  refine lv_iconst (v := (1 : Int32)) hx hb dL_law_453 (by decide) ?_
  refine lv_iadd hx hb dL_law_454 ?_
  refine va_sld hx hb hX hbl hbA hS hin1 dL_law_455 ?_
  refine lv_aload_n hx hb dL_law_456 rfl (lv_at hl 0 rfl) ?_
  refine lv_iload_n hx hb dL_law_457 rfl (lv_at hl 3 rfl) ?_
  refine lv_iconst (v := (2 : Int32)) hx hb dL_law_458 (by decide) ?_
  refine lv_iadd hx hb dL_law_459 ?_
  refine va_sld hx hb hX hbl hbA hS hin2 dL_law_460 ?_
  refine nl_ci (G := (D, ad1, cA)) hS hA1 (va_runV (As := [.int (xs (nI i + (1 : Int32)).toNatClampNeg), .int (xs (nI i + (2 : Int32)).toNatClampNeg)]) (rest := []) ⟨hx, hb, hml, hown, hts⟩ (c_X7_frees l (G := (D, ad1, cA)) (tb := tb) hi1 xc_Zok (N := N) h1) (cwV 2 hts (xg_V tw3_141 tw3_142 tw3_143 tw1_1 tw3_144) rfl rfl rfl (by decide +kernel) ⟨Nat.le_of_ble_eq_true rfl, Nat.le_of_ble_eq_true rfl⟩) (nl_preV (G := (D, ad1, cA)) hK hZ1 xc_Zok hP1 hS hAd1 (k := 0) rfl rfl) rfl rfl hl.1 rfl (lv_room (Nat.le_of_ble_eq_true rfl)) dL_law_461 ⟨Nat.le_of_ble_eq_true rfl, Nat.le_of_ble_eq_true rfl⟩) (fun H locs hP1 hk hS => ?_)
  have hP1 : va_P D vwCl (nb_cs xc_sh ad1 cA σo) H := hP1
  have hP2 := nb_keep (sh := xc_sh) (ad := ad1) hP2 hd hk
  refine lv_aload_n hx hb dL_law_464 rfl (lv_at hl 2 rfl) ?_
  refine lv_aload_n hx hb dL_law_465 rfl (lv_at hl 0 rfl) ?_
  refine lv_iload_n hx hb dL_law_466 rfl (lv_at hl 3 rfl) ?_
  refine lv_iconst (v := (1 : Int32)) hx hb dL_law_467 (by decide) ?_
  refine lv_iadd hx hb dL_law_468 ?_
  refine va_sld hx hb hX hbl hbA hS hin1 dL_law_469 ?_
  refine lv_aload_n hx hb dL_law_470 rfl (lv_at hl 0 rfl) ?_
  refine lv_iload_n hx hb dL_law_471 rfl (lv_at hl 3 rfl) ?_
  refine lv_iconst (v := (2 : Int32)) hx hb dL_law_472 (by decide) ?_
  refine lv_iadd hx hb dL_law_473 ?_
  refine va_sld hx hb hX hbl hbA hS hin2 dL_law_474 ?_
  refine nl_ci (G := (D, ad2, cA)) hS hA2 (va_runV (As := [.int (xs (nI i + (1 : Int32)).toNatClampNeg), .int (xs (nI i + (2 : Int32)).toNatClampNeg)]) (rest := [.int r]) ⟨hx, hb, hml, hown, hts⟩ (c_X8_frees l (G := (D, ad2, cA)) (Z := fun _ _ => True) hi2 nb_Tok (N := N) h2) (cwV 2 hts (xg_V tw5_151 tw5_152 tw5_153 tw1_10 tw5_154) rfl rfl rfl (by decide +kernel) ⟨Nat.le_of_ble_eq_true rfl, Nat.le_of_ble_eq_true rfl⟩) (nl_preV (G := (D, ad2, cA)) (Z := fun _ _ => True) hK trivial nb_Tok hP2 hS hAd2 (k := 0) rfl rfl) rfl rfl hl.1 rfl (lv_room (Nat.le_of_ble_eq_true rfl)) dL_law_475 ⟨Nat.le_of_ble_eq_true rfl, Nat.le_of_ble_eq_true rfl⟩) (fun H locs hP2 hk hS => ?_)
  have hP2 : va_P D vwCl (nb_cs xm_sh ad2 cA τo) H := hP2
  have hP1 := nb_keep (sh := xm_sh) (ad := ad2) hP1 (fun i j g1 g2 e => hd j i g2 g1 e.symm) hk
  refine lv_icmp_eq (tgt := 924) hx hb dL_law_478 (by decide) (fun c1 => ?_) (fun c1 => absurd rfl c1)
  exact hnext _ _ _ hP1 hP2 hS hl
set_option maxHeartbeats 4000000 in
set_option maxRecDepth 100000 in
theorem lc_madeUp {p : Program} {l : Launch} {e : Env} {s : State} {m : MethodId} {below : List Frame} {meth : Method} {c : Code} {D : va_G} {cA : Nat → ClassId} {ad1 ad2 tb : Nat → Nat} {b L : Nat} {xs : Nat → Int32} (hL : L ≤ 2048) (C0 : lw_At p s m meth c b L xs) (hK : va_K D vwCl (nb_ty cA) s) (hi1 : nb_inj xc_sh ad1) (hi2 : nb_inj xm_sh ad2) (hA1 : ∀ q, nb_A xc_sh ad1 q → s.heap.size ≤ q) (hA2 : ∀ q, nb_A xm_sh ad2 q → s.heap.size ≤ q) (hd : ∀ i j, i < xc_sh.length → j < xm_sh.length → ad1 i ≠ ad2 j) (hZ1 : xc_Z (nb_A xc_sh ad1) tb s s.heap) {i : Nat} (hi : i + 4 ≤ L) {N : Nat} {r : Int32} {σ τ σo τo : nb_St} (h1 : fX7_madeUp N σ (xs (nI i + (1 : Int32)).toNatClampNeg) (xs (nI i + (2 : Int32)).toNatClampNeg) = some (r, σo)) (h2 : fX8_madeUp N τ (xs (nI i + (1 : Int32)).toNatClampNeg) (xs (nI i + (2 : Int32)).toNatClampNeg) = some (r, τo)) {H : Heap} {locs : List Loc} {ls : Array Slot} (hP1 : va_P D vwCl (nb_cs xc_sh ad1 cA σ) H) (hP2 : va_P D vwCl (nb_cs xm_sh ad2 cA τ) H) (hS : va_S (fun q : Nat => s.heap.size ≤ q) s.heap H locs) (hl : lv_has ls 4 [(0, .ref b), (1, .ref (ad1 0)), (2, .ref (ad2 0)), (3, .int (nI i))]) (hnext : ∀ (H : Heap) (locs : List Loc) (ls : Array Slot), va_P D vwCl (nb_cs xc_sh ad1 cA σo) H → va_P D vwCl (nb_cs xm_sh ad2 cA τo) H → va_S (fun q : Nat => s.heap.size ≤ q) s.heap H locs → lv_has ls 4 [(0, .ref b), (1, .ref (ad1 0)), (2, .ref (ad2 0)), (3, .int (nI i))] → W p l e room_1 s m #[Value.ref b] below meth c H locs 111 1570 (lw_Z below #[Value.ref b] s) (F0 m 924 ls [])) : W p l e room_1 s m #[Value.ref b] below meth c H locs 111 1570 (lw_Z below #[Value.ref b] s) (F0 m 483 ls []) := by
  obtain ⟨hx, hb, hr, hml, hown, hts0, hX, hbl, hlocks, hgv⟩ := C0
  have hts : ∀ w ∈ xT, w.before #[Value.ref b] s = true := fun w h => hts0 w (List.mem_filter.mp h).1
  have hbA : ¬ (fun q : Nat => s.heap.size ≤ q) b := Nat.not_le.mpr hbl
  have hAd1 : ∀ a, a < s.heap.size → (fun q : Nat => s.heap.size ≤ q) a → nb_A xc_sh ad1 a := fun a h1 h2 => absurd h1 (Nat.not_lt.mpr h2)
  have hAd2 : ∀ a, a < s.heap.size → (fun q : Nat => s.heap.size ≤ q) a → nb_A xm_sh ad2 a := fun a h1 h2 => absurd h1 (Nat.not_lt.mpr h2)
  have hin1 : vp_in (nI i + (1 : Int32)) L := by rw [show nI i + (1 : Int32) = nI (i + 1) from nI_add i 1]; exact vp_in_nI (by omega) (by omega)
  have hin2 : vp_in (nI i + (2 : Int32)) L := by rw [show nI i + (2 : Int32) = nI (i + 2) from nI_add i 2]; exact vp_in_nI (by omega) (by omega)
  have hin3 : vp_in (nI i + (3 : Int32)) L := by rw [show nI i + (3 : Int32) = nI (i + 3) from nI_add i 3]; exact vp_in_nI (by omega) (by omega)
  refine lv_aload_n hx hb dL_law_483 rfl (lv_at hl 1 rfl) ?_
  refine lv_aload_n hx hb dL_law_484 rfl (lv_at hl 0 rfl) ?_
  refine lv_iload_n hx hb dL_law_485 rfl (lv_at hl 3 rfl) ?_
  refine lv_iconst (v := (1 : Int32)) hx hb dL_law_486 (by decide) ?_
  refine lv_iadd hx hb dL_law_487 ?_
  refine va_sld hx hb hX hbl hbA hS hin1 dL_law_488 ?_
  refine lv_aload_n hx hb dL_law_489 rfl (lv_at hl 0 rfl) ?_
  refine lv_iload_n hx hb dL_law_490 rfl (lv_at hl 3 rfl) ?_
  refine lv_iconst (v := (2 : Int32)) hx hb dL_law_491 (by decide) ?_
  refine lv_iadd hx hb dL_law_492 ?_
  refine va_sld hx hb hX hbl hbA hS hin2 dL_law_493 ?_
  refine nl_ci (G := (D, ad1, cA)) hS hA1 (va_runV (As := [.int (xs (nI i + (1 : Int32)).toNatClampNeg), .int (xs (nI i + (2 : Int32)).toNatClampNeg)]) (rest := []) ⟨hx, hb, hml, hown, hts⟩ (c_X7_madeUp l (G := (D, ad1, cA)) (tb := tb) hi1 xc_Zok (N := N) h1) (cwV 2 hts (xg_V tw3_154 tw3_155 tw3_156 tw1_1 tw3_157) rfl rfl rfl (by decide +kernel) ⟨Nat.le_of_ble_eq_true rfl, Nat.le_of_ble_eq_true rfl⟩) (nl_preV (G := (D, ad1, cA)) hK hZ1 xc_Zok hP1 hS hAd1 (k := 0) rfl rfl) rfl rfl hl.1 rfl (lv_room (Nat.le_of_ble_eq_true rfl)) dL_law_494 ⟨Nat.le_of_ble_eq_true rfl, Nat.le_of_ble_eq_true rfl⟩) (fun H locs hP1 hk hS => ?_)
  have hP1 : va_P D vwCl (nb_cs xc_sh ad1 cA σo) H := hP1
  have hP2 := nb_keep (sh := xc_sh) (ad := ad1) hP2 hd hk
  refine lv_aload_n hx hb dL_law_497 rfl (lv_at hl 2 rfl) ?_
  refine lv_aload_n hx hb dL_law_498 rfl (lv_at hl 0 rfl) ?_
  refine lv_iload_n hx hb dL_law_499 rfl (lv_at hl 3 rfl) ?_
  refine lv_iconst (v := (1 : Int32)) hx hb dL_law_500 (by decide) ?_
  refine lv_iadd hx hb dL_law_501 ?_
  refine va_sld hx hb hX hbl hbA hS hin1 dL_law_502 ?_
  refine lv_aload_n hx hb dL_law_503 rfl (lv_at hl 0 rfl) ?_
  refine lv_iload_n hx hb dL_law_504 rfl (lv_at hl 3 rfl) ?_
  refine lv_iconst (v := (2 : Int32)) hx hb dL_law_505 (by decide) ?_
  refine lv_iadd hx hb dL_law_506 ?_
  refine va_sld hx hb hX hbl hbA hS hin2 dL_law_507 ?_
  refine nl_ci (G := (D, ad2, cA)) hS hA2 (va_runV (As := [.int (xs (nI i + (1 : Int32)).toNatClampNeg), .int (xs (nI i + (2 : Int32)).toNatClampNeg)]) (rest := [.int r]) ⟨hx, hb, hml, hown, hts⟩ (c_X8_madeUp l (G := (D, ad2, cA)) (Z := fun _ _ => True) hi2 nb_Tok (N := N) h2) (cwV 2 hts (xg_V tw5_160 tw5_161 tw5_162 tw1_10 tw5_163) rfl rfl rfl (by decide +kernel) ⟨Nat.le_of_ble_eq_true rfl, Nat.le_of_ble_eq_true rfl⟩) (nl_preV (G := (D, ad2, cA)) (Z := fun _ _ => True) hK trivial nb_Tok hP2 hS hAd2 (k := 0) rfl rfl) rfl rfl hl.1 rfl (lv_room (Nat.le_of_ble_eq_true rfl)) dL_law_508 ⟨Nat.le_of_ble_eq_true rfl, Nat.le_of_ble_eq_true rfl⟩) (fun H locs hP2 hk hS => ?_)
  have hP2 : va_P D vwCl (nb_cs xm_sh ad2 cA τo) H := hP2
  have hP1 := nb_keep (sh := xm_sh) (ad := ad2) hP1 (fun i j g1 g2 e => hd j i g2 g1 e.symm) hk
  refine lv_icmp_eq (tgt := 924) hx hb dL_law_511 (by decide) (fun c1 => ?_) (fun c1 => absurd rfl c1)
  exact hnext _ _ _ hP1 hP2 hS hl
set_option maxHeartbeats 4000000 in
set_option maxRecDepth 100000 in
theorem lc_bell {p : Program} {l : Launch} {e : Env} {s : State} {m : MethodId} {below : List Frame} {meth : Method} {c : Code} {D : va_G} {cA : Nat → ClassId} {ad1 ad2 tb : Nat → Nat} {b L : Nat} {xs : Nat → Int32} (hL : L ≤ 2048) (C0 : lw_At p s m meth c b L xs) (hK : va_K D vwCl (nb_ty cA) s) (hi1 : nb_inj xc_sh ad1) (hi2 : nb_inj xm_sh ad2) (hA1 : ∀ q, nb_A xc_sh ad1 q → s.heap.size ≤ q) (hA2 : ∀ q, nb_A xm_sh ad2 q → s.heap.size ≤ q) (hd : ∀ i j, i < xc_sh.length → j < xm_sh.length → ad1 i ≠ ad2 j) (hZ1 : xc_Z (nb_A xc_sh ad1) tb s s.heap) {i : Nat} (hi : i + 4 ≤ L) {N : Nat} {r : Int32} {σ τ σo τo : nb_St} (h1 : fX7_bell N σ (xs (nI i + (1 : Int32)).toNatClampNeg) = some (r, σo)) (h2 : fX8_bell N τ (xs (nI i + (1 : Int32)).toNatClampNeg) = some (r, τo)) {H : Heap} {locs : List Loc} {ls : Array Slot} (hP1 : va_P D vwCl (nb_cs xc_sh ad1 cA σ) H) (hP2 : va_P D vwCl (nb_cs xm_sh ad2 cA τ) H) (hS : va_S (fun q : Nat => s.heap.size ≤ q) s.heap H locs) (hl : lv_has ls 4 [(0, .ref b), (1, .ref (ad1 0)), (2, .ref (ad2 0)), (3, .int (nI i))]) (hnext : ∀ (H : Heap) (locs : List Loc) (ls : Array Slot), va_P D vwCl (nb_cs xc_sh ad1 cA σo) H → va_P D vwCl (nb_cs xm_sh ad2 cA τo) H → va_S (fun q : Nat => s.heap.size ≤ q) s.heap H locs → lv_has ls 4 [(0, .ref b), (1, .ref (ad1 0)), (2, .ref (ad2 0)), (3, .int (nI i))] → W p l e room_1 s m #[Value.ref b] below meth c H locs 111 1570 (lw_Z below #[Value.ref b] s) (F0 m 924 ls [])) : W p l e room_1 s m #[Value.ref b] below meth c H locs 111 1570 (lw_Z below #[Value.ref b] s) (F0 m 516 ls []) := by
  obtain ⟨hx, hb, hr, hml, hown, hts0, hX, hbl, hlocks, hgv⟩ := C0
  have hts : ∀ w ∈ xT, w.before #[Value.ref b] s = true := fun w h => hts0 w (List.mem_filter.mp h).1
  have hbA : ¬ (fun q : Nat => s.heap.size ≤ q) b := Nat.not_le.mpr hbl
  have hAd1 : ∀ a, a < s.heap.size → (fun q : Nat => s.heap.size ≤ q) a → nb_A xc_sh ad1 a := fun a h1 h2 => absurd h1 (Nat.not_lt.mpr h2)
  have hAd2 : ∀ a, a < s.heap.size → (fun q : Nat => s.heap.size ≤ q) a → nb_A xm_sh ad2 a := fun a h1 h2 => absurd h1 (Nat.not_lt.mpr h2)
  have hin1 : vp_in (nI i + (1 : Int32)) L := by rw [show nI i + (1 : Int32) = nI (i + 1) from nI_add i 1]; exact vp_in_nI (by omega) (by omega)
  have hin2 : vp_in (nI i + (2 : Int32)) L := by rw [show nI i + (2 : Int32) = nI (i + 2) from nI_add i 2]; exact vp_in_nI (by omega) (by omega)
  have hin3 : vp_in (nI i + (3 : Int32)) L := by rw [show nI i + (3 : Int32) = nI (i + 3) from nI_add i 3]; exact vp_in_nI (by omega) (by omega)
  refine lv_aload_n hx hb dL_law_516 rfl (lv_at hl 1 rfl) ?_
  refine lv_aload_n hx hb dL_law_517 rfl (lv_at hl 0 rfl) ?_
  refine lv_iload_n hx hb dL_law_518 rfl (lv_at hl 3 rfl) ?_
  refine lv_iconst (v := (1 : Int32)) hx hb dL_law_519 (by decide) ?_
  refine lv_iadd hx hb dL_law_520 ?_
  refine va_sld hx hb hX hbl hbA hS hin1 dL_law_521 ?_
  refine nl_ci (G := (D, ad1, cA)) hS hA1 (va_runV (As := [.int (xs (nI i + (1 : Int32)).toNatClampNeg)]) (rest := []) ⟨hx, hb, hml, hown, hts⟩ (c_X7_bell l (G := (D, ad1, cA)) (tb := tb) hi1 xc_Zok (N := N) h1) (cwV 1 hts (xg_V tw3_158 tw3_159 tw3_160 tw1_1 tw3_161) rfl rfl rfl (by decide +kernel) ⟨Nat.le_of_ble_eq_true rfl, Nat.le_of_ble_eq_true rfl⟩) (nl_preV (G := (D, ad1, cA)) hK hZ1 xc_Zok hP1 hS hAd1 (k := 0) rfl rfl) rfl rfl hl.1 rfl (lv_room (Nat.le_of_ble_eq_true rfl)) dL_law_522 ⟨Nat.le_of_ble_eq_true rfl, Nat.le_of_ble_eq_true rfl⟩) (fun H locs hP1 hk hS => ?_)
  have hP1 : va_P D vwCl (nb_cs xc_sh ad1 cA σo) H := hP1
  have hP2 := nb_keep (sh := xc_sh) (ad := ad1) hP2 hd hk
  refine lv_aload_n hx hb dL_law_525 rfl (lv_at hl 2 rfl) ?_
  refine lv_aload_n hx hb dL_law_526 rfl (lv_at hl 0 rfl) ?_
  refine lv_iload_n hx hb dL_law_527 rfl (lv_at hl 3 rfl) ?_
  refine lv_iconst (v := (1 : Int32)) hx hb dL_law_528 (by decide) ?_
  refine lv_iadd hx hb dL_law_529 ?_
  refine va_sld hx hb hX hbl hbA hS hin1 dL_law_530 ?_
  refine nl_ci (G := (D, ad2, cA)) hS hA2 (va_runV (As := [.int (xs (nI i + (1 : Int32)).toNatClampNeg)]) (rest := [.int r]) ⟨hx, hb, hml, hown, hts⟩ (c_X8_bell l (G := (D, ad2, cA)) (Z := fun _ _ => True) hi2 nb_Tok (N := N) h2) (cwV 1 hts (xg_V tw5_164 tw5_165 tw5_166 tw1_10 tw5_167) rfl rfl rfl (by decide +kernel) ⟨Nat.le_of_ble_eq_true rfl, Nat.le_of_ble_eq_true rfl⟩) (nl_preV (G := (D, ad2, cA)) (Z := fun _ _ => True) hK trivial nb_Tok hP2 hS hAd2 (k := 0) rfl rfl) rfl rfl hl.1 rfl (lv_room (Nat.le_of_ble_eq_true rfl)) dL_law_531 ⟨Nat.le_of_ble_eq_true rfl, Nat.le_of_ble_eq_true rfl⟩) (fun H locs hP2 hk hS => ?_)
  have hP2 : va_P D vwCl (nb_cs xm_sh ad2 cA τo) H := hP2
  have hP1 := nb_keep (sh := xm_sh) (ad := ad2) hP1 (fun i j g1 g2 e => hd j i g2 g1 e.symm) hk
  refine lv_icmp_eq (tgt := 924) hx hb dL_law_534 (by decide) (fun c1 => ?_) (fun c1 => absurd rfl c1)
  exact hnext _ _ _ hP1 hP2 hS hl
set_option maxHeartbeats 4000000 in
set_option maxRecDepth 100000 in
theorem lc_best {p : Program} {l : Launch} {e : Env} {s : State} {m : MethodId} {below : List Frame} {meth : Method} {c : Code} {D : va_G} {cA : Nat → ClassId} {ad1 ad2 tb : Nat → Nat} {b L : Nat} {xs : Nat → Int32} (hL : L ≤ 2048) (C0 : lw_At p s m meth c b L xs) (hK : va_K D vwCl (nb_ty cA) s) (hi1 : nb_inj xc_sh ad1) (hi2 : nb_inj xm_sh ad2) (hA1 : ∀ q, nb_A xc_sh ad1 q → s.heap.size ≤ q) (hA2 : ∀ q, nb_A xm_sh ad2 q → s.heap.size ≤ q) (hd : ∀ i j, i < xc_sh.length → j < xm_sh.length → ad1 i ≠ ad2 j) (hZ1 : xc_Z (nb_A xc_sh ad1) tb s s.heap) {i : Nat} (hi : i + 4 ≤ L) {N : Nat} {r : Int32} {σ τ σo τo : nb_St} (h1 : fX7_best N σ (xs (nI i + (1 : Int32)).toNatClampNeg) = some (r, σo)) (h2 : fX8_best N τ (xs (nI i + (1 : Int32)).toNatClampNeg) = some (r, τo)) {H : Heap} {locs : List Loc} {ls : Array Slot} (hP1 : va_P D vwCl (nb_cs xc_sh ad1 cA σ) H) (hP2 : va_P D vwCl (nb_cs xm_sh ad2 cA τ) H) (hS : va_S (fun q : Nat => s.heap.size ≤ q) s.heap H locs) (hl : lv_has ls 4 [(0, .ref b), (1, .ref (ad1 0)), (2, .ref (ad2 0)), (3, .int (nI i))]) (hnext : ∀ (H : Heap) (locs : List Loc) (ls : Array Slot), va_P D vwCl (nb_cs xc_sh ad1 cA σo) H → va_P D vwCl (nb_cs xm_sh ad2 cA τo) H → va_S (fun q : Nat => s.heap.size ≤ q) s.heap H locs → lv_has ls 4 [(0, .ref b), (1, .ref (ad1 0)), (2, .ref (ad2 0)), (3, .int (nI i))] → W p l e room_1 s m #[Value.ref b] below meth c H locs 111 1570 (lw_Z below #[Value.ref b] s) (F0 m 924 ls [])) : W p l e room_1 s m #[Value.ref b] below meth c H locs 111 1570 (lw_Z below #[Value.ref b] s) (F0 m 539 ls []) := by
  obtain ⟨hx, hb, hr, hml, hown, hts0, hX, hbl, hlocks, hgv⟩ := C0
  have hts : ∀ w ∈ xT, w.before #[Value.ref b] s = true := fun w h => hts0 w (List.mem_filter.mp h).1
  have hbA : ¬ (fun q : Nat => s.heap.size ≤ q) b := Nat.not_le.mpr hbl
  have hAd1 : ∀ a, a < s.heap.size → (fun q : Nat => s.heap.size ≤ q) a → nb_A xc_sh ad1 a := fun a h1 h2 => absurd h1 (Nat.not_lt.mpr h2)
  have hAd2 : ∀ a, a < s.heap.size → (fun q : Nat => s.heap.size ≤ q) a → nb_A xm_sh ad2 a := fun a h1 h2 => absurd h1 (Nat.not_lt.mpr h2)
  have hin1 : vp_in (nI i + (1 : Int32)) L := by rw [show nI i + (1 : Int32) = nI (i + 1) from nI_add i 1]; exact vp_in_nI (by omega) (by omega)
  have hin2 : vp_in (nI i + (2 : Int32)) L := by rw [show nI i + (2 : Int32) = nI (i + 2) from nI_add i 2]; exact vp_in_nI (by omega) (by omega)
  have hin3 : vp_in (nI i + (3 : Int32)) L := by rw [show nI i + (3 : Int32) = nI (i + 3) from nI_add i 3]; exact vp_in_nI (by omega) (by omega)
  refine lv_aload_n hx hb dL_law_539 rfl (lv_at hl 1 rfl) ?_
  refine lv_aload_n hx hb dL_law_540 rfl (lv_at hl 0 rfl) ?_
  refine lv_iload_n hx hb dL_law_541 rfl (lv_at hl 3 rfl) ?_
  refine lv_iconst (v := (1 : Int32)) hx hb dL_law_542 (by decide) ?_
  refine lv_iadd hx hb dL_law_543 ?_
  refine va_sld hx hb hX hbl hbA hS hin1 dL_law_544 ?_
  refine nl_ci (G := (D, ad1, cA)) hS hA1 (va_runV (As := [.int (xs (nI i + (1 : Int32)).toNatClampNeg)]) (rest := []) ⟨hx, hb, hml, hown, hts⟩ (c_X7_best l (G := (D, ad1, cA)) (tb := tb) hi1 xc_Zok (N := N) h1) (cwV 1 hts (xg_V tw3_170 tw3_171 tw3_172 tw1_1 tw3_173) rfl rfl rfl (by decide +kernel) ⟨Nat.le_of_ble_eq_true rfl, Nat.le_of_ble_eq_true rfl⟩) (nl_preV (G := (D, ad1, cA)) hK hZ1 xc_Zok hP1 hS hAd1 (k := 0) rfl rfl) rfl rfl hl.1 rfl (lv_room (Nat.le_of_ble_eq_true rfl)) dL_law_545 ⟨Nat.le_of_ble_eq_true rfl, Nat.le_of_ble_eq_true rfl⟩) (fun H locs hP1 hk hS => ?_)
  have hP1 : va_P D vwCl (nb_cs xc_sh ad1 cA σo) H := hP1
  have hP2 := nb_keep (sh := xc_sh) (ad := ad1) hP2 hd hk
  refine lv_aload_n hx hb dL_law_548 rfl (lv_at hl 2 rfl) ?_
  refine lv_aload_n hx hb dL_law_549 rfl (lv_at hl 0 rfl) ?_
  refine lv_iload_n hx hb dL_law_550 rfl (lv_at hl 3 rfl) ?_
  refine lv_iconst (v := (1 : Int32)) hx hb dL_law_551 (by decide) ?_
  refine lv_iadd hx hb dL_law_552 ?_
  refine va_sld hx hb hX hbl hbA hS hin1 dL_law_553 ?_
  refine nl_ci (G := (D, ad2, cA)) hS hA2 (va_runV (As := [.int (xs (nI i + (1 : Int32)).toNatClampNeg)]) (rest := [.int r]) ⟨hx, hb, hml, hown, hts⟩ (c_X8_best l (G := (D, ad2, cA)) (Z := fun _ _ => True) hi2 nb_Tok (N := N) h2) (cwV 1 hts (xg_V tw5_172 tw5_173 tw5_174 tw1_10 tw5_175) rfl rfl rfl (by decide +kernel) ⟨Nat.le_of_ble_eq_true rfl, Nat.le_of_ble_eq_true rfl⟩) (nl_preV (G := (D, ad2, cA)) (Z := fun _ _ => True) hK trivial nb_Tok hP2 hS hAd2 (k := 0) rfl rfl) rfl rfl hl.1 rfl (lv_room (Nat.le_of_ble_eq_true rfl)) dL_law_554 ⟨Nat.le_of_ble_eq_true rfl, Nat.le_of_ble_eq_true rfl⟩) (fun H locs hP2 hk hS => ?_)
  have hP2 : va_P D vwCl (nb_cs xm_sh ad2 cA τo) H := hP2
  have hP1 := nb_keep (sh := xm_sh) (ad := ad2) hP1 (fun i j g1 g2 e => hd j i g2 g1 e.symm) hk
  refine lv_icmp_eq (tgt := 924) hx hb dL_law_557 (by decide) (fun c1 => ?_) (fun c1 => absurd rfl c1)
  exact hnext _ _ _ hP1 hP2 hS hl
set_option maxHeartbeats 4000000 in
set_option maxRecDepth 100000 in
theorem lc_given {p : Program} {l : Launch} {e : Env} {s : State} {m : MethodId} {below : List Frame} {meth : Method} {c : Code} {D : va_G} {cA : Nat → ClassId} {ad1 ad2 tb : Nat → Nat} {b L : Nat} {xs : Nat → Int32} (hL : L ≤ 2048) (C0 : lw_At p s m meth c b L xs) (hK : va_K D vwCl (nb_ty cA) s) (hi1 : nb_inj xc_sh ad1) (hi2 : nb_inj xm_sh ad2) (hA1 : ∀ q, nb_A xc_sh ad1 q → s.heap.size ≤ q) (hA2 : ∀ q, nb_A xm_sh ad2 q → s.heap.size ≤ q) (hd : ∀ i j, i < xc_sh.length → j < xm_sh.length → ad1 i ≠ ad2 j) (hZ1 : xc_Z (nb_A xc_sh ad1) tb s s.heap) {i : Nat} (hi : i + 4 ≤ L) {N : Nat} {r : Int32} {σ τ σo τo : nb_St} (h1 : fX7_given N σ (xs (nI i + (1 : Int32)).toNatClampNeg) = some (r, σo)) (h2 : fX8_given N τ (xs (nI i + (1 : Int32)).toNatClampNeg) = some (r, τo)) {H : Heap} {locs : List Loc} {ls : Array Slot} (hP1 : va_P D vwCl (nb_cs xc_sh ad1 cA σ) H) (hP2 : va_P D vwCl (nb_cs xm_sh ad2 cA τ) H) (hS : va_S (fun q : Nat => s.heap.size ≤ q) s.heap H locs) (hl : lv_has ls 4 [(0, .ref b), (1, .ref (ad1 0)), (2, .ref (ad2 0)), (3, .int (nI i))]) (hnext : ∀ (H : Heap) (locs : List Loc) (ls : Array Slot), va_P D vwCl (nb_cs xc_sh ad1 cA σo) H → va_P D vwCl (nb_cs xm_sh ad2 cA τo) H → va_S (fun q : Nat => s.heap.size ≤ q) s.heap H locs → lv_has ls 4 [(0, .ref b), (1, .ref (ad1 0)), (2, .ref (ad2 0)), (3, .int (nI i))] → W p l e room_1 s m #[Value.ref b] below meth c H locs 111 1570 (lw_Z below #[Value.ref b] s) (F0 m 924 ls [])) : W p l e room_1 s m #[Value.ref b] below meth c H locs 111 1570 (lw_Z below #[Value.ref b] s) (F0 m 562 ls []) := by
  obtain ⟨hx, hb, hr, hml, hown, hts0, hX, hbl, hlocks, hgv⟩ := C0
  have hts : ∀ w ∈ xT, w.before #[Value.ref b] s = true := fun w h => hts0 w (List.mem_filter.mp h).1
  have hbA : ¬ (fun q : Nat => s.heap.size ≤ q) b := Nat.not_le.mpr hbl
  have hAd1 : ∀ a, a < s.heap.size → (fun q : Nat => s.heap.size ≤ q) a → nb_A xc_sh ad1 a := fun a h1 h2 => absurd h1 (Nat.not_lt.mpr h2)
  have hAd2 : ∀ a, a < s.heap.size → (fun q : Nat => s.heap.size ≤ q) a → nb_A xm_sh ad2 a := fun a h1 h2 => absurd h1 (Nat.not_lt.mpr h2)
  have hin1 : vp_in (nI i + (1 : Int32)) L := by rw [show nI i + (1 : Int32) = nI (i + 1) from nI_add i 1]; exact vp_in_nI (by omega) (by omega)
  have hin2 : vp_in (nI i + (2 : Int32)) L := by rw [show nI i + (2 : Int32) = nI (i + 2) from nI_add i 2]; exact vp_in_nI (by omega) (by omega)
  have hin3 : vp_in (nI i + (3 : Int32)) L := by rw [show nI i + (3 : Int32) = nI (i + 3) from nI_add i 3]; exact vp_in_nI (by omega) (by omega)
  refine lv_aload_n hx hb dL_law_562 rfl (lv_at hl 1 rfl) ?_
  refine lv_aload_n hx hb dL_law_563 rfl (lv_at hl 0 rfl) ?_
  refine lv_iload_n hx hb dL_law_564 rfl (lv_at hl 3 rfl) ?_
  refine lv_iconst (v := (1 : Int32)) hx hb dL_law_565 (by decide) ?_
  refine lv_iadd hx hb dL_law_566 ?_
  refine va_sld hx hb hX hbl hbA hS hin1 dL_law_567 ?_
  refine nl_ci (G := (D, ad1, cA)) hS hA1 (va_runV (As := [.int (xs (nI i + (1 : Int32)).toNatClampNeg)]) (rest := []) ⟨hx, hb, hml, hown, hts⟩ (c_X7_given l (G := (D, ad1, cA)) (tb := tb) hi1 xc_Zok (N := N) h1) (cwV 1 hts (xg_V tw3_174 tw3_175 tw3_176 tw1_1 tw3_177) rfl rfl rfl (by decide +kernel) ⟨Nat.le_of_ble_eq_true rfl, Nat.le_of_ble_eq_true rfl⟩) (nl_preV (G := (D, ad1, cA)) hK hZ1 xc_Zok hP1 hS hAd1 (k := 0) rfl rfl) rfl rfl hl.1 rfl (lv_room (Nat.le_of_ble_eq_true rfl)) dL_law_568 ⟨Nat.le_of_ble_eq_true rfl, Nat.le_of_ble_eq_true rfl⟩) (fun H locs hP1 hk hS => ?_)
  have hP1 : va_P D vwCl (nb_cs xc_sh ad1 cA σo) H := hP1
  have hP2 := nb_keep (sh := xc_sh) (ad := ad1) hP2 hd hk
  refine lv_aload_n hx hb dL_law_571 rfl (lv_at hl 2 rfl) ?_
  refine lv_aload_n hx hb dL_law_572 rfl (lv_at hl 0 rfl) ?_
  refine lv_iload_n hx hb dL_law_573 rfl (lv_at hl 3 rfl) ?_
  refine lv_iconst (v := (1 : Int32)) hx hb dL_law_574 (by decide) ?_
  refine lv_iadd hx hb dL_law_575 ?_
  refine va_sld hx hb hX hbl hbA hS hin1 dL_law_576 ?_
  refine nl_ci (G := (D, ad2, cA)) hS hA2 (va_runV (As := [.int (xs (nI i + (1 : Int32)).toNatClampNeg)]) (rest := [.int r]) ⟨hx, hb, hml, hown, hts⟩ (c_X8_given l (G := (D, ad2, cA)) (Z := fun _ _ => True) hi2 nb_Tok (N := N) h2) (cwV 1 hts (xg_V tw5_176 tw5_177 tw5_178 tw1_10 tw5_179) rfl rfl rfl (by decide +kernel) ⟨Nat.le_of_ble_eq_true rfl, Nat.le_of_ble_eq_true rfl⟩) (nl_preV (G := (D, ad2, cA)) (Z := fun _ _ => True) hK trivial nb_Tok hP2 hS hAd2 (k := 0) rfl rfl) rfl rfl hl.1 rfl (lv_room (Nat.le_of_ble_eq_true rfl)) dL_law_577 ⟨Nat.le_of_ble_eq_true rfl, Nat.le_of_ble_eq_true rfl⟩) (fun H locs hP2 hk hS => ?_)
  have hP2 : va_P D vwCl (nb_cs xm_sh ad2 cA τo) H := hP2
  have hP1 := nb_keep (sh := xm_sh) (ad := ad2) hP1 (fun i j g1 g2 e => hd j i g2 g1 e.symm) hk
  refine lv_icmp_eq (tgt := 924) hx hb dL_law_580 (by decide) (fun c1 => ?_) (fun c1 => absurd rfl c1)
  exact hnext _ _ _ hP1 hP2 hS hl
set_option maxHeartbeats 4000000 in
set_option maxRecDepth 100000 in
theorem lc_cost {p : Program} {l : Launch} {e : Env} {s : State} {m : MethodId} {below : List Frame} {meth : Method} {c : Code} {D : va_G} {cA : Nat → ClassId} {ad1 ad2 tb : Nat → Nat} {b L : Nat} {xs : Nat → Int32} (hL : L ≤ 2048) (C0 : lw_At p s m meth c b L xs) (hK : va_K D vwCl (nb_ty cA) s) (hi1 : nb_inj xc_sh ad1) (hi2 : nb_inj xm_sh ad2) (hA1 : ∀ q, nb_A xc_sh ad1 q → s.heap.size ≤ q) (hA2 : ∀ q, nb_A xm_sh ad2 q → s.heap.size ≤ q) (hd : ∀ i j, i < xc_sh.length → j < xm_sh.length → ad1 i ≠ ad2 j) (hZ1 : xc_Z (nb_A xc_sh ad1) tb s s.heap) {i : Nat} (hi : i + 4 ≤ L) {N : Nat} {r : Int32} {σ τ σo τo : nb_St} (h1 : fX7_cost N σ (xs (nI i + (1 : Int32)).toNatClampNeg) (xs (nI i + (2 : Int32)).toNatClampNeg) = some (r, σo)) (h2 : fX8_cost N τ (xs (nI i + (1 : Int32)).toNatClampNeg) (xs (nI i + (2 : Int32)).toNatClampNeg) = some (r, τo)) {H : Heap} {locs : List Loc} {ls : Array Slot} (hP1 : va_P D vwCl (nb_cs xc_sh ad1 cA σ) H) (hP2 : va_P D vwCl (nb_cs xm_sh ad2 cA τ) H) (hS : va_S (fun q : Nat => s.heap.size ≤ q) s.heap H locs) (hl : lv_has ls 4 [(0, .ref b), (1, .ref (ad1 0)), (2, .ref (ad2 0)), (3, .int (nI i))]) (hnext : ∀ (H : Heap) (locs : List Loc) (ls : Array Slot), va_P D vwCl (nb_cs xc_sh ad1 cA σo) H → va_P D vwCl (nb_cs xm_sh ad2 cA τo) H → va_S (fun q : Nat => s.heap.size ≤ q) s.heap H locs → lv_has ls 4 [(0, .ref b), (1, .ref (ad1 0)), (2, .ref (ad2 0)), (3, .int (nI i))] → W p l e room_1 s m #[Value.ref b] below meth c H locs 111 1570 (lw_Z below #[Value.ref b] s) (F0 m 924 ls [])) : W p l e room_1 s m #[Value.ref b] below meth c H locs 111 1570 (lw_Z below #[Value.ref b] s) (F0 m 585 ls []) := by
  obtain ⟨hx, hb, hr, hml, hown, hts0, hX, hbl, hlocks, hgv⟩ := C0
  have hts : ∀ w ∈ xT, w.before #[Value.ref b] s = true := fun w h => hts0 w (List.mem_filter.mp h).1
  have hbA : ¬ (fun q : Nat => s.heap.size ≤ q) b := Nat.not_le.mpr hbl
  have hAd1 : ∀ a, a < s.heap.size → (fun q : Nat => s.heap.size ≤ q) a → nb_A xc_sh ad1 a := fun a h1 h2 => absurd h1 (Nat.not_lt.mpr h2)
  have hAd2 : ∀ a, a < s.heap.size → (fun q : Nat => s.heap.size ≤ q) a → nb_A xm_sh ad2 a := fun a h1 h2 => absurd h1 (Nat.not_lt.mpr h2)
  have hin1 : vp_in (nI i + (1 : Int32)) L := by rw [show nI i + (1 : Int32) = nI (i + 1) from nI_add i 1]; exact vp_in_nI (by omega) (by omega)
  have hin2 : vp_in (nI i + (2 : Int32)) L := by rw [show nI i + (2 : Int32) = nI (i + 2) from nI_add i 2]; exact vp_in_nI (by omega) (by omega)
  have hin3 : vp_in (nI i + (3 : Int32)) L := by rw [show nI i + (3 : Int32) = nI (i + 3) from nI_add i 3]; exact vp_in_nI (by omega) (by omega)
  refine lv_aload_n hx hb dL_law_585 rfl (lv_at hl 1 rfl) ?_
  refine lv_aload_n hx hb dL_law_586 rfl (lv_at hl 0 rfl) ?_
  refine lv_iload_n hx hb dL_law_587 rfl (lv_at hl 3 rfl) ?_
  refine lv_iconst (v := (1 : Int32)) hx hb dL_law_588 (by decide) ?_
  refine lv_iadd hx hb dL_law_589 ?_
  refine va_sld hx hb hX hbl hbA hS hin1 dL_law_590 ?_
  refine lv_aload_n hx hb dL_law_591 rfl (lv_at hl 0 rfl) ?_
  refine lv_iload_n hx hb dL_law_592 rfl (lv_at hl 3 rfl) ?_
  refine lv_iconst (v := (2 : Int32)) hx hb dL_law_593 (by decide) ?_
  refine lv_iadd hx hb dL_law_594 ?_
  refine va_sld hx hb hX hbl hbA hS hin2 dL_law_595 ?_
  refine nl_ci (G := (D, ad1, cA)) hS hA1 (va_runV (As := [.int (xs (nI i + (1 : Int32)).toNatClampNeg), .int (xs (nI i + (2 : Int32)).toNatClampNeg)]) (rest := []) ⟨hx, hb, hml, hown, hts⟩ (c_X7_cost l (G := (D, ad1, cA)) (tb := tb) hi1 xc_Zok (N := N) h1) (cwV 2 hts (xg_V tw3_206 tw3_207 tw3_208 tw1_1 tw3_209) rfl rfl rfl (by decide +kernel) ⟨Nat.le_of_ble_eq_true rfl, Nat.le_of_ble_eq_true rfl⟩) (nl_preV (G := (D, ad1, cA)) hK hZ1 xc_Zok hP1 hS hAd1 (k := 0) rfl rfl) rfl rfl hl.1 rfl (lv_room (Nat.le_of_ble_eq_true rfl)) dL_law_596 ⟨Nat.le_of_ble_eq_true rfl, Nat.le_of_ble_eq_true rfl⟩) (fun H locs hP1 hk hS => ?_)
  have hP1 : va_P D vwCl (nb_cs xc_sh ad1 cA σo) H := hP1
  have hP2 := nb_keep (sh := xc_sh) (ad := ad1) hP2 hd hk
  refine lv_aload_n hx hb dL_law_599 rfl (lv_at hl 2 rfl) ?_
  refine lv_aload_n hx hb dL_law_600 rfl (lv_at hl 0 rfl) ?_
  refine lv_iload_n hx hb dL_law_601 rfl (lv_at hl 3 rfl) ?_
  refine lv_iconst (v := (1 : Int32)) hx hb dL_law_602 (by decide) ?_
  refine lv_iadd hx hb dL_law_603 ?_
  refine va_sld hx hb hX hbl hbA hS hin1 dL_law_604 ?_
  refine lv_aload_n hx hb dL_law_605 rfl (lv_at hl 0 rfl) ?_
  refine lv_iload_n hx hb dL_law_606 rfl (lv_at hl 3 rfl) ?_
  refine lv_iconst (v := (2 : Int32)) hx hb dL_law_607 (by decide) ?_
  refine lv_iadd hx hb dL_law_608 ?_
  refine va_sld hx hb hX hbl hbA hS hin2 dL_law_609 ?_
  refine nl_ci (G := (D, ad2, cA)) hS hA2 (va_runV (As := [.int (xs (nI i + (1 : Int32)).toNatClampNeg), .int (xs (nI i + (2 : Int32)).toNatClampNeg)]) (rest := [.int r]) ⟨hx, hb, hml, hown, hts⟩ (c_X8_cost l (G := (D, ad2, cA)) (Z := fun _ _ => True) hi2 nb_Tok (N := N) h2) (cwV 2 hts (xg_V tw5_185 tw5_186 tw5_187 tw1_10 tw5_188) rfl rfl rfl (by decide +kernel) ⟨Nat.le_of_ble_eq_true rfl, Nat.le_of_ble_eq_true rfl⟩) (nl_preV (G := (D, ad2, cA)) (Z := fun _ _ => True) hK trivial nb_Tok hP2 hS hAd2 (k := 0) rfl rfl) rfl rfl hl.1 rfl (lv_room (Nat.le_of_ble_eq_true rfl)) dL_law_610 ⟨Nat.le_of_ble_eq_true rfl, Nat.le_of_ble_eq_true rfl⟩) (fun H locs hP2 hk hS => ?_)
  have hP2 : va_P D vwCl (nb_cs xm_sh ad2 cA τo) H := hP2
  have hP1 := nb_keep (sh := xm_sh) (ad := ad2) hP1 (fun i j g1 g2 e => hd j i g2 g1 e.symm) hk
  refine lv_icmp_eq (tgt := 924) hx hb dL_law_613 (by decide) (fun c1 => ?_) (fun c1 => absurd rfl c1)
  exact hnext _ _ _ hP1 hP2 hS hl
set_option maxHeartbeats 4000000 in
set_option maxRecDepth 100000 in
theorem lc_rests {p : Program} {l : Launch} {e : Env} {s : State} {m : MethodId} {below : List Frame} {meth : Method} {c : Code} {D : va_G} {cA : Nat → ClassId} {ad1 ad2 tb : Nat → Nat} {b L : Nat} {xs : Nat → Int32} (hL : L ≤ 2048) (C0 : lw_At p s m meth c b L xs) (hK : va_K D vwCl (nb_ty cA) s) (hi1 : nb_inj xc_sh ad1) (hi2 : nb_inj xm_sh ad2) (hA1 : ∀ q, nb_A xc_sh ad1 q → s.heap.size ≤ q) (hA2 : ∀ q, nb_A xm_sh ad2 q → s.heap.size ≤ q) (hd : ∀ i j, i < xc_sh.length → j < xm_sh.length → ad1 i ≠ ad2 j) (hZ1 : xc_Z (nb_A xc_sh ad1) tb s s.heap) {i : Nat} (hi : i + 4 ≤ L) {N : Nat} {r : Int32} {σ τ σo τo : nb_St} (h1 : fX7_rests N σ (xs (nI i + (1 : Int32)).toNatClampNeg) = some (r, σo)) (h2 : fX8_rests N τ (xs (nI i + (1 : Int32)).toNatClampNeg) = some (r, τo)) {H : Heap} {locs : List Loc} {ls : Array Slot} (hP1 : va_P D vwCl (nb_cs xc_sh ad1 cA σ) H) (hP2 : va_P D vwCl (nb_cs xm_sh ad2 cA τ) H) (hS : va_S (fun q : Nat => s.heap.size ≤ q) s.heap H locs) (hl : lv_has ls 4 [(0, .ref b), (1, .ref (ad1 0)), (2, .ref (ad2 0)), (3, .int (nI i))]) (hnext : ∀ (H : Heap) (locs : List Loc) (ls : Array Slot), va_P D vwCl (nb_cs xc_sh ad1 cA σo) H → va_P D vwCl (nb_cs xm_sh ad2 cA τo) H → va_S (fun q : Nat => s.heap.size ≤ q) s.heap H locs → lv_has ls 4 [(0, .ref b), (1, .ref (ad1 0)), (2, .ref (ad2 0)), (3, .int (nI i))] → W p l e room_1 s m #[Value.ref b] below meth c H locs 111 1570 (lw_Z below #[Value.ref b] s) (F0 m 924 ls [])) : W p l e room_1 s m #[Value.ref b] below meth c H locs 111 1570 (lw_Z below #[Value.ref b] s) (F0 m 618 ls []) := by
  obtain ⟨hx, hb, hr, hml, hown, hts0, hX, hbl, hlocks, hgv⟩ := C0
  have hts : ∀ w ∈ xT, w.before #[Value.ref b] s = true := fun w h => hts0 w (List.mem_filter.mp h).1
  have hbA : ¬ (fun q : Nat => s.heap.size ≤ q) b := Nat.not_le.mpr hbl
  have hAd1 : ∀ a, a < s.heap.size → (fun q : Nat => s.heap.size ≤ q) a → nb_A xc_sh ad1 a := fun a h1 h2 => absurd h1 (Nat.not_lt.mpr h2)
  have hAd2 : ∀ a, a < s.heap.size → (fun q : Nat => s.heap.size ≤ q) a → nb_A xm_sh ad2 a := fun a h1 h2 => absurd h1 (Nat.not_lt.mpr h2)
  have hin1 : vp_in (nI i + (1 : Int32)) L := by rw [show nI i + (1 : Int32) = nI (i + 1) from nI_add i 1]; exact vp_in_nI (by omega) (by omega)
  have hin2 : vp_in (nI i + (2 : Int32)) L := by rw [show nI i + (2 : Int32) = nI (i + 2) from nI_add i 2]; exact vp_in_nI (by omega) (by omega)
  have hin3 : vp_in (nI i + (3 : Int32)) L := by rw [show nI i + (3 : Int32) = nI (i + 3) from nI_add i 3]; exact vp_in_nI (by omega) (by omega)
  refine lv_aload_n hx hb dL_law_618 rfl (lv_at hl 1 rfl) ?_
  refine lv_aload_n hx hb dL_law_619 rfl (lv_at hl 0 rfl) ?_
  refine lv_iload_n hx hb dL_law_620 rfl (lv_at hl 3 rfl) ?_
  refine lv_iconst (v := (1 : Int32)) hx hb dL_law_621 (by decide) ?_
  refine lv_iadd hx hb dL_law_622 ?_
  refine va_sld hx hb hX hbl hbA hS hin1 dL_law_623 ?_
  refine nl_ci (G := (D, ad1, cA)) hS hA1 (va_runV (As := [.int (xs (nI i + (1 : Int32)).toNatClampNeg)]) (rest := []) ⟨hx, hb, hml, hown, hts⟩ (c_X7_rests l (G := (D, ad1, cA)) (tb := tb) hi1 xc_Zok (N := N) h1) (cwV 1 hts (xg_V tw3_224 tw3_225 tw3_226 tw1_1 tw3_227) rfl rfl rfl (by decide +kernel) ⟨Nat.le_of_ble_eq_true rfl, Nat.le_of_ble_eq_true rfl⟩) (nl_preV (G := (D, ad1, cA)) hK hZ1 xc_Zok hP1 hS hAd1 (k := 0) rfl rfl) rfl rfl hl.1 rfl (lv_room (Nat.le_of_ble_eq_true rfl)) dL_law_624 ⟨Nat.le_of_ble_eq_true rfl, Nat.le_of_ble_eq_true rfl⟩) (fun H locs hP1 hk hS => ?_)
  have hP1 : va_P D vwCl (nb_cs xc_sh ad1 cA σo) H := hP1
  have hP2 := nb_keep (sh := xc_sh) (ad := ad1) hP2 hd hk
  refine lv_aload_n hx hb dL_law_627 rfl (lv_at hl 2 rfl) ?_
  refine lv_aload_n hx hb dL_law_628 rfl (lv_at hl 0 rfl) ?_
  refine lv_iload_n hx hb dL_law_629 rfl (lv_at hl 3 rfl) ?_
  refine lv_iconst (v := (1 : Int32)) hx hb dL_law_630 (by decide) ?_
  refine lv_iadd hx hb dL_law_631 ?_
  refine va_sld hx hb hX hbl hbA hS hin1 dL_law_632 ?_
  refine nl_ci (G := (D, ad2, cA)) hS hA2 (va_runV (As := [.int (xs (nI i + (1 : Int32)).toNatClampNeg)]) (rest := [.int r]) ⟨hx, hb, hml, hown, hts⟩ (c_X8_rests l (G := (D, ad2, cA)) (Z := fun _ _ => True) hi2 nb_Tok (N := N) h2) (cwV 1 hts (xg_V tw5_198 tw5_199 tw5_200 tw1_10 tw5_201) rfl rfl rfl (by decide +kernel) ⟨Nat.le_of_ble_eq_true rfl, Nat.le_of_ble_eq_true rfl⟩) (nl_preV (G := (D, ad2, cA)) (Z := fun _ _ => True) hK trivial nb_Tok hP2 hS hAd2 (k := 0) rfl rfl) rfl rfl hl.1 rfl (lv_room (Nat.le_of_ble_eq_true rfl)) dL_law_633 ⟨Nat.le_of_ble_eq_true rfl, Nat.le_of_ble_eq_true rfl⟩) (fun H locs hP2 hk hS => ?_)
  have hP2 : va_P D vwCl (nb_cs xm_sh ad2 cA τo) H := hP2
  have hP1 := nb_keep (sh := xm_sh) (ad := ad2) hP1 (fun i j g1 g2 e => hd j i g2 g1 e.symm) hk
  refine lv_icmp_eq (tgt := 924) hx hb dL_law_636 (by decide) (fun c1 => ?_) (fun c1 => absurd rfl c1)
  exact hnext _ _ _ hP1 hP2 hS hl
set_option maxHeartbeats 4000000 in
set_option maxRecDepth 100000 in
theorem lc_price {p : Program} {l : Launch} {e : Env} {s : State} {m : MethodId} {below : List Frame} {meth : Method} {c : Code} {D : va_G} {cA : Nat → ClassId} {ad1 ad2 tb : Nat → Nat} {b L : Nat} {xs : Nat → Int32} (hL : L ≤ 2048) (C0 : lw_At p s m meth c b L xs) (hK : va_K D vwCl (nb_ty cA) s) (hi1 : nb_inj xc_sh ad1) (hi2 : nb_inj xm_sh ad2) (hA1 : ∀ q, nb_A xc_sh ad1 q → s.heap.size ≤ q) (hA2 : ∀ q, nb_A xm_sh ad2 q → s.heap.size ≤ q) (hd : ∀ i j, i < xc_sh.length → j < xm_sh.length → ad1 i ≠ ad2 j) (hZ1 : xc_Z (nb_A xc_sh ad1) tb s s.heap) {i : Nat} (hi : i + 4 ≤ L) {N : Nat} {r : Int32} {σ τ σo τo : nb_St} (h1 : fX7_price N σ  = some (r, σo)) (h2 : fX8_price N τ  = some (r, τo)) {H : Heap} {locs : List Loc} {ls : Array Slot} (hP1 : va_P D vwCl (nb_cs xc_sh ad1 cA σ) H) (hP2 : va_P D vwCl (nb_cs xm_sh ad2 cA τ) H) (hS : va_S (fun q : Nat => s.heap.size ≤ q) s.heap H locs) (hl : lv_has ls 4 [(0, .ref b), (1, .ref (ad1 0)), (2, .ref (ad2 0)), (3, .int (nI i))]) (hnext : ∀ (H : Heap) (locs : List Loc) (ls : Array Slot), va_P D vwCl (nb_cs xc_sh ad1 cA σo) H → va_P D vwCl (nb_cs xm_sh ad2 cA τo) H → va_S (fun q : Nat => s.heap.size ≤ q) s.heap H locs → lv_has ls 4 [(0, .ref b), (1, .ref (ad1 0)), (2, .ref (ad2 0)), (3, .int (nI i))] → W p l e room_1 s m #[Value.ref b] below meth c H locs 111 1570 (lw_Z below #[Value.ref b] s) (F0 m 924 ls [])) : W p l e room_1 s m #[Value.ref b] below meth c H locs 111 1570 (lw_Z below #[Value.ref b] s) (F0 m 641 ls []) := by
  obtain ⟨hx, hb, hr, hml, hown, hts0, hX, hbl, hlocks, hgv⟩ := C0
  have hts : ∀ w ∈ xT, w.before #[Value.ref b] s = true := fun w h => hts0 w (List.mem_filter.mp h).1
  have hbA : ¬ (fun q : Nat => s.heap.size ≤ q) b := Nat.not_le.mpr hbl
  have hAd1 : ∀ a, a < s.heap.size → (fun q : Nat => s.heap.size ≤ q) a → nb_A xc_sh ad1 a := fun a h1 h2 => absurd h1 (Nat.not_lt.mpr h2)
  have hAd2 : ∀ a, a < s.heap.size → (fun q : Nat => s.heap.size ≤ q) a → nb_A xm_sh ad2 a := fun a h1 h2 => absurd h1 (Nat.not_lt.mpr h2)
  have hin1 : vp_in (nI i + (1 : Int32)) L := by rw [show nI i + (1 : Int32) = nI (i + 1) from nI_add i 1]; exact vp_in_nI (by omega) (by omega)
  have hin2 : vp_in (nI i + (2 : Int32)) L := by rw [show nI i + (2 : Int32) = nI (i + 2) from nI_add i 2]; exact vp_in_nI (by omega) (by omega)
  have hin3 : vp_in (nI i + (3 : Int32)) L := by rw [show nI i + (3 : Int32) = nI (i + 3) from nI_add i 3]; exact vp_in_nI (by omega) (by omega)
  refine lv_aload_n hx hb dL_law_641 rfl (lv_at hl 1 rfl) ?_
  refine nl_ci (G := (D, ad1, cA)) hS hA1 (va_runV (As := []) (rest := []) ⟨hx, hb, hml, hown, hts⟩ (c_X7_price l (G := (D, ad1, cA)) (tb := tb) hi1 xc_Zok (N := N) h1) (cwV 0 hts (xg_V tw4_12 tw4_13 tw4_14 tw1_1 tw4_15) rfl rfl rfl (by decide +kernel) ⟨Nat.le_of_ble_eq_true rfl, Nat.le_of_ble_eq_true rfl⟩) (nl_preV (G := (D, ad1, cA)) hK hZ1 xc_Zok hP1 hS hAd1 (k := 0) rfl rfl) rfl rfl hl.1 rfl (lv_room (Nat.le_of_ble_eq_true rfl)) dL_law_642 ⟨Nat.le_of_ble_eq_true rfl, Nat.le_of_ble_eq_true rfl⟩) (fun H locs hP1 hk hS => ?_)
  have hP1 : va_P D vwCl (nb_cs xc_sh ad1 cA σo) H := hP1
  have hP2 := nb_keep (sh := xc_sh) (ad := ad1) hP2 hd hk
  refine lv_aload_n hx hb dL_law_645 rfl (lv_at hl 2 rfl) ?_
  refine nl_ci (G := (D, ad2, cA)) hS hA2 (va_runV (As := []) (rest := [.int r]) ⟨hx, hb, hml, hown, hts⟩ (c_X8_price l (G := (D, ad2, cA)) (Z := fun _ _ => True) hi2 nb_Tok (N := N) h2) (cwV 0 hts (xg_V tw5_214 tw5_215 tw5_216 tw1_10 tw5_217) rfl rfl rfl (by decide +kernel) ⟨Nat.le_of_ble_eq_true rfl, Nat.le_of_ble_eq_true rfl⟩) (nl_preV (G := (D, ad2, cA)) (Z := fun _ _ => True) hK trivial nb_Tok hP2 hS hAd2 (k := 0) rfl rfl) rfl rfl hl.1 rfl (lv_room (Nat.le_of_ble_eq_true rfl)) dL_law_646 ⟨Nat.le_of_ble_eq_true rfl, Nat.le_of_ble_eq_true rfl⟩) (fun H locs hP2 hk hS => ?_)
  have hP2 : va_P D vwCl (nb_cs xm_sh ad2 cA τo) H := hP2
  have hP1 := nb_keep (sh := xm_sh) (ad := ad2) hP1 (fun i j g1 g2 e => hd j i g2 g1 e.symm) hk
  refine lv_icmp_eq (tgt := 924) hx hb dL_law_649 (by decide) (fun c1 => ?_) (fun c1 => absurd rfl c1)
  exact hnext _ _ _ hP1 hP2 hS hl
set_option maxHeartbeats 4000000 in
set_option maxRecDepth 100000 in
theorem lc_meant {p : Program} {l : Launch} {e : Env} {s : State} {m : MethodId} {below : List Frame} {meth : Method} {c : Code} {D : va_G} {cA : Nat → ClassId} {ad1 ad2 tb : Nat → Nat} {b L : Nat} {xs : Nat → Int32} (hL : L ≤ 2048) (C0 : lw_At p s m meth c b L xs) (hK : va_K D vwCl (nb_ty cA) s) (hi1 : nb_inj xc_sh ad1) (hi2 : nb_inj xm_sh ad2) (hA1 : ∀ q, nb_A xc_sh ad1 q → s.heap.size ≤ q) (hA2 : ∀ q, nb_A xm_sh ad2 q → s.heap.size ≤ q) (hd : ∀ i j, i < xc_sh.length → j < xm_sh.length → ad1 i ≠ ad2 j) (hZ1 : xc_Z (nb_A xc_sh ad1) tb s s.heap) {i : Nat} (hi : i + 4 ≤ L) {N : Nat} {r : Int32} {σ τ  : nb_St} (h1 : fX7_meant N σ (xs (nI i + (1 : Int32)).toNatClampNeg) (xs (nI i + (2 : Int32)).toNatClampNeg) = some r) (h2 : fX8_meant N τ (xs (nI i + (1 : Int32)).toNatClampNeg) (xs (nI i + (2 : Int32)).toNatClampNeg) = some r) {H : Heap} {locs : List Loc} {ls : Array Slot} (hP1 : va_P D vwCl (nb_cs xc_sh ad1 cA σ) H) (hP2 : va_P D vwCl (nb_cs xm_sh ad2 cA τ) H) (hS : va_S (fun q : Nat => s.heap.size ≤ q) s.heap H locs) (hl : lv_has ls 4 [(0, .ref b), (1, .ref (ad1 0)), (2, .ref (ad2 0)), (3, .int (nI i))]) (hnext : ∀ (H : Heap) (locs : List Loc) (ls : Array Slot), va_P D vwCl (nb_cs xc_sh ad1 cA σ) H → va_P D vwCl (nb_cs xm_sh ad2 cA τ) H → va_S (fun q : Nat => s.heap.size ≤ q) s.heap H locs → lv_has ls 4 [(0, .ref b), (1, .ref (ad1 0)), (2, .ref (ad2 0)), (3, .int (nI i))] → W p l e room_1 s m #[Value.ref b] below meth c H locs 111 1570 (lw_Z below #[Value.ref b] s) (F0 m 924 ls [])) : W p l e room_1 s m #[Value.ref b] below meth c H locs 111 1570 (lw_Z below #[Value.ref b] s) (F0 m 654 ls []) := by
  obtain ⟨hx, hb, hr, hml, hown, hts0, hX, hbl, hlocks, hgv⟩ := C0
  have hts : ∀ w ∈ xT, w.before #[Value.ref b] s = true := fun w h => hts0 w (List.mem_filter.mp h).1
  have hbA : ¬ (fun q : Nat => s.heap.size ≤ q) b := Nat.not_le.mpr hbl
  have hAd1 : ∀ a, a < s.heap.size → (fun q : Nat => s.heap.size ≤ q) a → nb_A xc_sh ad1 a := fun a h1 h2 => absurd h1 (Nat.not_lt.mpr h2)
  have hAd2 : ∀ a, a < s.heap.size → (fun q : Nat => s.heap.size ≤ q) a → nb_A xm_sh ad2 a := fun a h1 h2 => absurd h1 (Nat.not_lt.mpr h2)
  have hin1 : vp_in (nI i + (1 : Int32)) L := by rw [show nI i + (1 : Int32) = nI (i + 1) from nI_add i 1]; exact vp_in_nI (by omega) (by omega)
  have hin2 : vp_in (nI i + (2 : Int32)) L := by rw [show nI i + (2 : Int32) = nI (i + 2) from nI_add i 2]; exact vp_in_nI (by omega) (by omega)
  have hin3 : vp_in (nI i + (3 : Int32)) L := by rw [show nI i + (3 : Int32) = nI (i + 3) from nI_add i 3]; exact vp_in_nI (by omega) (by omega)
  refine lv_aload_n hx hb dL_law_654 rfl (lv_at hl 1 rfl) ?_
  refine lv_aload_n hx hb dL_law_655 rfl (lv_at hl 0 rfl) ?_
  refine lv_iload_n hx hb dL_law_656 rfl (lv_at hl 3 rfl) ?_
  refine lv_iconst (v := (1 : Int32)) hx hb dL_law_657 (by decide) ?_
  refine lv_iadd hx hb dL_law_658 ?_
  refine va_sld hx hb hX hbl hbA hS hin1 dL_law_659 ?_
  refine lv_aload_n hx hb dL_law_660 rfl (lv_at hl 0 rfl) ?_
  refine lv_iload_n hx hb dL_law_661 rfl (lv_at hl 3 rfl) ?_
  refine lv_iconst (v := (2 : Int32)) hx hb dL_law_662 (by decide) ?_
  refine lv_iadd hx hb dL_law_663 ?_
  refine va_sld hx hb hX hbl hbA hS hin2 dL_law_664 ?_
  refine nl_ci (G := (D, ad1, cA)) hS hA1 (va_runV (As := [.int (xs (nI i + (1 : Int32)).toNatClampNeg), .int (xs (nI i + (2 : Int32)).toNatClampNeg)]) (rest := []) ⟨hx, hb, hml, hown, hts⟩ (c_X7_meant l (G := (D, ad1, cA)) (tb := tb) hi1 xc_Zok (N := N) h1) (cwV 2 hts (xg_V tw4_16 tw4_17 tw4_18 tw1_1 tw4_19) rfl rfl rfl (by decide +kernel) ⟨Nat.le_of_ble_eq_true rfl, Nat.le_of_ble_eq_true rfl⟩) (nl_preV (G := (D, ad1, cA)) hK hZ1 xc_Zok hP1 hS hAd1 (k := 0) rfl rfl) rfl rfl hl.1 rfl (lv_room (Nat.le_of_ble_eq_true rfl)) dL_law_665 ⟨Nat.le_of_ble_eq_true rfl, Nat.le_of_ble_eq_true rfl⟩) (fun H locs hP1 hk hS => ?_)
  have hP1 : va_P D vwCl (nb_cs xc_sh ad1 cA σ) H := hP1
  have hP2 := nb_keep (sh := xc_sh) (ad := ad1) hP2 hd hk
  refine lv_aload_n hx hb dL_law_668 rfl (lv_at hl 2 rfl) ?_
  refine lv_aload_n hx hb dL_law_669 rfl (lv_at hl 0 rfl) ?_
  refine lv_iload_n hx hb dL_law_670 rfl (lv_at hl 3 rfl) ?_
  refine lv_iconst (v := (1 : Int32)) hx hb dL_law_671 (by decide) ?_
  refine lv_iadd hx hb dL_law_672 ?_
  refine va_sld hx hb hX hbl hbA hS hin1 dL_law_673 ?_
  refine lv_aload_n hx hb dL_law_674 rfl (lv_at hl 0 rfl) ?_
  refine lv_iload_n hx hb dL_law_675 rfl (lv_at hl 3 rfl) ?_
  refine lv_iconst (v := (2 : Int32)) hx hb dL_law_676 (by decide) ?_
  refine lv_iadd hx hb dL_law_677 ?_
  refine va_sld hx hb hX hbl hbA hS hin2 dL_law_678 ?_
  refine nl_ci (G := (D, ad2, cA)) hS hA2 (va_runV (As := [.int (xs (nI i + (1 : Int32)).toNatClampNeg), .int (xs (nI i + (2 : Int32)).toNatClampNeg)]) (rest := [.int r]) ⟨hx, hb, hml, hown, hts⟩ (c_X8_meant l (G := (D, ad2, cA)) (Z := fun _ _ => True) hi2 nb_Tok (N := N) h2) (cwV 2 hts (xg_V tw5_222 tw5_223 tw5_224 tw1_10 tw5_225) rfl rfl rfl (by decide +kernel) ⟨Nat.le_of_ble_eq_true rfl, Nat.le_of_ble_eq_true rfl⟩) (nl_preV (G := (D, ad2, cA)) (Z := fun _ _ => True) hK trivial nb_Tok hP2 hS hAd2 (k := 0) rfl rfl) rfl rfl hl.1 rfl (lv_room (Nat.le_of_ble_eq_true rfl)) dL_law_679 ⟨Nat.le_of_ble_eq_true rfl, Nat.le_of_ble_eq_true rfl⟩) (fun H locs hP2 hk hS => ?_)
  have hP2 : va_P D vwCl (nb_cs xm_sh ad2 cA τ) H := hP2
  have hP1 := nb_keep (sh := xm_sh) (ad := ad2) hP1 (fun i j g1 g2 e => hd j i g2 g1 e.symm) hk
  refine lv_icmp_eq (tgt := 924) hx hb dL_law_682 (by decide) (fun c1 => ?_) (fun c1 => absurd rfl c1)
  exact hnext _ _ _ hP1 hP2 hS hl
set_option maxHeartbeats 4000000 in
set_option maxRecDepth 100000 in
theorem lc_since {p : Program} {l : Launch} {e : Env} {s : State} {m : MethodId} {below : List Frame} {meth : Method} {c : Code} {D : va_G} {cA : Nat → ClassId} {ad1 ad2 tb : Nat → Nat} {b L : Nat} {xs : Nat → Int32} (hL : L ≤ 2048) (C0 : lw_At p s m meth c b L xs) (hK : va_K D vwCl (nb_ty cA) s) (hi1 : nb_inj xc_sh ad1) (hi2 : nb_inj xm_sh ad2) (hA1 : ∀ q, nb_A xc_sh ad1 q → s.heap.size ≤ q) (hA2 : ∀ q, nb_A xm_sh ad2 q → s.heap.size ≤ q) (hd : ∀ i j, i < xc_sh.length → j < xm_sh.length → ad1 i ≠ ad2 j) (hZ1 : xc_Z (nb_A xc_sh ad1) tb s s.heap) {i : Nat} (hi : i + 4 ≤ L) {N : Nat} {r : Int32} {σ τ  : nb_St} (h1 : fX7_since N σ (xs (nI i + (1 : Int32)).toNatClampNeg) (xs (nI i + (2 : Int32)).toNatClampNeg) (xs (nI i + (3 : Int32)).toNatClampNeg) = some r) (h2 : fX8_since N τ (xs (nI i + (1 : Int32)).toNatClampNeg) (xs (nI i + (2 : Int32)).toNatClampNeg) (xs (nI i + (3 : Int32)).toNatClampNeg) = some r) {H : Heap} {locs : List Loc} {ls : Array Slot} (hP1 : va_P D vwCl (nb_cs xc_sh ad1 cA σ) H) (hP2 : va_P D vwCl (nb_cs xm_sh ad2 cA τ) H) (hS : va_S (fun q : Nat => s.heap.size ≤ q) s.heap H locs) (hl : lv_has ls 4 [(0, .ref b), (1, .ref (ad1 0)), (2, .ref (ad2 0)), (3, .int (nI i))]) (hnext : ∀ (H : Heap) (locs : List Loc) (ls : Array Slot), va_P D vwCl (nb_cs xc_sh ad1 cA σ) H → va_P D vwCl (nb_cs xm_sh ad2 cA τ) H → va_S (fun q : Nat => s.heap.size ≤ q) s.heap H locs → lv_has ls 4 [(0, .ref b), (1, .ref (ad1 0)), (2, .ref (ad2 0)), (3, .int (nI i))] → W p l e room_1 s m #[Value.ref b] below meth c H locs 111 1570 (lw_Z below #[Value.ref b] s) (F0 m 924 ls [])) : W p l e room_1 s m #[Value.ref b] below meth c H locs 111 1570 (lw_Z below #[Value.ref b] s) (F0 m 687 ls []) := by
  obtain ⟨hx, hb, hr, hml, hown, hts0, hX, hbl, hlocks, hgv⟩ := C0
  have hts : ∀ w ∈ xT, w.before #[Value.ref b] s = true := fun w h => hts0 w (List.mem_filter.mp h).1
  have hbA : ¬ (fun q : Nat => s.heap.size ≤ q) b := Nat.not_le.mpr hbl
  have hAd1 : ∀ a, a < s.heap.size → (fun q : Nat => s.heap.size ≤ q) a → nb_A xc_sh ad1 a := fun a h1 h2 => absurd h1 (Nat.not_lt.mpr h2)
  have hAd2 : ∀ a, a < s.heap.size → (fun q : Nat => s.heap.size ≤ q) a → nb_A xm_sh ad2 a := fun a h1 h2 => absurd h1 (Nat.not_lt.mpr h2)
  have hin1 : vp_in (nI i + (1 : Int32)) L := by rw [show nI i + (1 : Int32) = nI (i + 1) from nI_add i 1]; exact vp_in_nI (by omega) (by omega)
  have hin2 : vp_in (nI i + (2 : Int32)) L := by rw [show nI i + (2 : Int32) = nI (i + 2) from nI_add i 2]; exact vp_in_nI (by omega) (by omega)
  have hin3 : vp_in (nI i + (3 : Int32)) L := by rw [show nI i + (3 : Int32) = nI (i + 3) from nI_add i 3]; exact vp_in_nI (by omega) (by omega)
  refine lv_aload_n hx hb dL_law_687 rfl (lv_at hl 1 rfl) ?_
  refine lv_aload_n hx hb dL_law_688 rfl (lv_at hl 0 rfl) ?_
  refine lv_iload_n hx hb dL_law_689 rfl (lv_at hl 3 rfl) ?_
  refine lv_iconst (v := (1 : Int32)) hx hb dL_law_690 (by decide) ?_
  refine lv_iadd hx hb dL_law_691 ?_
  refine va_sld hx hb hX hbl hbA hS hin1 dL_law_692 ?_
  refine lv_aload_n hx hb dL_law_693 rfl (lv_at hl 0 rfl) ?_
  refine lv_iload_n hx hb dL_law_694 rfl (lv_at hl 3 rfl) ?_
  refine lv_iconst (v := (2 : Int32)) hx hb dL_law_695 (by decide) ?_
  refine lv_iadd hx hb dL_law_696 ?_
  refine va_sld hx hb hX hbl hbA hS hin2 dL_law_697 ?_
  refine lv_aload_n hx hb dL_law_698 rfl (lv_at hl 0 rfl) ?_
  refine lv_iload_n hx hb dL_law_699 rfl (lv_at hl 3 rfl) ?_
  refine lv_iconst (v := (3 : Int32)) hx hb dL_law_700 (by decide) ?_
  refine lv_iadd hx hb dL_law_701 ?_
  refine va_sld hx hb hX hbl hbA hS hin3 dL_law_702 ?_
  refine nl_ci (G := (D, ad1, cA)) hS hA1 (va_runV (As := [.int (xs (nI i + (1 : Int32)).toNatClampNeg), .int (xs (nI i + (2 : Int32)).toNatClampNeg), .int (xs (nI i + (3 : Int32)).toNatClampNeg)]) (rest := []) ⟨hx, hb, hml, hown, hts⟩ (c_X7_since l (G := (D, ad1, cA)) (tb := tb) hi1 xc_Zok (N := N) h1) (cwV 3 hts (xg_V tw4_27 tw4_28 tw4_29 tw1_1 tw4_30) rfl rfl rfl (by decide +kernel) ⟨Nat.le_of_ble_eq_true rfl, Nat.le_of_ble_eq_true rfl⟩) (nl_preV (G := (D, ad1, cA)) hK hZ1 xc_Zok hP1 hS hAd1 (k := 0) rfl rfl) rfl rfl hl.1 rfl (lv_room (Nat.le_of_ble_eq_true rfl)) dL_law_703 ⟨Nat.le_of_ble_eq_true rfl, Nat.le_of_ble_eq_true rfl⟩) (fun H locs hP1 hk hS => ?_)
  have hP1 : va_P D vwCl (nb_cs xc_sh ad1 cA σ) H := hP1
  have hP2 := nb_keep (sh := xc_sh) (ad := ad1) hP2 hd hk
  refine lv_aload_n hx hb dL_law_706 rfl (lv_at hl 2 rfl) ?_
  refine lv_aload_n hx hb dL_law_707 rfl (lv_at hl 0 rfl) ?_
  refine lv_iload_n hx hb dL_law_708 rfl (lv_at hl 3 rfl) ?_
  refine lv_iconst (v := (1 : Int32)) hx hb dL_law_709 (by decide) ?_
  refine lv_iadd hx hb dL_law_710 ?_
  refine va_sld hx hb hX hbl hbA hS hin1 dL_law_711 ?_
  refine lv_aload_n hx hb dL_law_712 rfl (lv_at hl 0 rfl) ?_
  refine lv_iload_n hx hb dL_law_713 rfl (lv_at hl 3 rfl) ?_
  refine lv_iconst (v := (2 : Int32)) hx hb dL_law_714 (by decide) ?_
  refine lv_iadd hx hb dL_law_715 ?_
  refine va_sld hx hb hX hbl hbA hS hin2 dL_law_716 ?_
  refine lv_aload_n hx hb dL_law_717 rfl (lv_at hl 0 rfl) ?_
  refine lv_iload_n hx hb dL_law_718 rfl (lv_at hl 3 rfl) ?_
  refine lv_iconst (v := (3 : Int32)) hx hb dL_law_719 (by decide) ?_
  refine lv_iadd hx hb dL_law_720 ?_
  refine va_sld hx hb hX hbl hbA hS hin3 dL_law_721 ?_
  refine nl_ci (G := (D, ad2, cA)) hS hA2 (va_runV (As := [.int (xs (nI i + (1 : Int32)).toNatClampNeg), .int (xs (nI i + (2 : Int32)).toNatClampNeg), .int (xs (nI i + (3 : Int32)).toNatClampNeg)]) (rest := [.int r]) ⟨hx, hb, hml, hown, hts⟩ (c_X8_since l (G := (D, ad2, cA)) (Z := fun _ _ => True) hi2 nb_Tok (N := N) h2) (cwV 3 hts (xg_V tw5_229 tw5_230 tw5_231 tw1_10 tw5_232) rfl rfl rfl (by decide +kernel) ⟨Nat.le_of_ble_eq_true rfl, Nat.le_of_ble_eq_true rfl⟩) (nl_preV (G := (D, ad2, cA)) (Z := fun _ _ => True) hK trivial nb_Tok hP2 hS hAd2 (k := 0) rfl rfl) rfl rfl hl.1 rfl (lv_room (Nat.le_of_ble_eq_true rfl)) dL_law_722 ⟨Nat.le_of_ble_eq_true rfl, Nat.le_of_ble_eq_true rfl⟩) (fun H locs hP2 hk hS => ?_)
  have hP2 : va_P D vwCl (nb_cs xm_sh ad2 cA τ) H := hP2
  have hP1 := nb_keep (sh := xm_sh) (ad := ad2) hP1 (fun i j g1 g2 e => hd j i g2 g1 e.symm) hk
  refine lv_icmp_eq (tgt := 924) hx hb dL_law_725 (by decide) (fun c1 => ?_) (fun c1 => absurd rfl c1)
  exact hnext _ _ _ hP1 hP2 hS hl
set_option maxHeartbeats 4000000 in
set_option maxRecDepth 100000 in
theorem lc_leave {p : Program} {l : Launch} {e : Env} {s : State} {m : MethodId} {below : List Frame} {meth : Method} {c : Code} {D : va_G} {cA : Nat → ClassId} {ad1 ad2 tb : Nat → Nat} {b L : Nat} {xs : Nat → Int32} (hL : L ≤ 2048) (C0 : lw_At p s m meth c b L xs) (hK : va_K D vwCl (nb_ty cA) s) (hi1 : nb_inj xc_sh ad1) (hi2 : nb_inj xm_sh ad2) (hA1 : ∀ q, nb_A xc_sh ad1 q → s.heap.size ≤ q) (hA2 : ∀ q, nb_A xm_sh ad2 q → s.heap.size ≤ q) (hd : ∀ i j, i < xc_sh.length → j < xm_sh.length → ad1 i ≠ ad2 j) (hZ1 : xc_Z (nb_A xc_sh ad1) tb s s.heap) {i : Nat} (hi : i + 4 ≤ L) {N : Nat} {r : Int32} {σ τ  : nb_St} (h1 : fX7_leave N σ (xs (nI i + (1 : Int32)).toNatClampNeg) (xs (nI i + (2 : Int32)).toNatClampNeg) (xs (nI i + (3 : Int32)).toNatClampNeg) = some r) (h2 : fX8_leave N τ (xs (nI i + (1 : Int32)).toNatClampNeg) (xs (nI i + (2 : Int32)).toNatClampNeg) (xs (nI i + (3 : Int32)).toNatClampNeg) = some r) {H : Heap} {locs : List Loc} {ls : Array Slot} (hP1 : va_P D vwCl (nb_cs xc_sh ad1 cA σ) H) (hP2 : va_P D vwCl (nb_cs xm_sh ad2 cA τ) H) (hS : va_S (fun q : Nat => s.heap.size ≤ q) s.heap H locs) (hl : lv_has ls 4 [(0, .ref b), (1, .ref (ad1 0)), (2, .ref (ad2 0)), (3, .int (nI i))]) (hnext : ∀ (H : Heap) (locs : List Loc) (ls : Array Slot), va_P D vwCl (nb_cs xc_sh ad1 cA σ) H → va_P D vwCl (nb_cs xm_sh ad2 cA τ) H → va_S (fun q : Nat => s.heap.size ≤ q) s.heap H locs → lv_has ls 4 [(0, .ref b), (1, .ref (ad1 0)), (2, .ref (ad2 0)), (3, .int (nI i))] → W p l e room_1 s m #[Value.ref b] below meth c H locs 111 1570 (lw_Z below #[Value.ref b] s) (F0 m 924 ls [])) : W p l e room_1 s m #[Value.ref b] below meth c H locs 111 1570 (lw_Z below #[Value.ref b] s) (F0 m 730 ls []) := by
  obtain ⟨hx, hb, hr, hml, hown, hts0, hX, hbl, hlocks, hgv⟩ := C0
  have hts : ∀ w ∈ xT, w.before #[Value.ref b] s = true := fun w h => hts0 w (List.mem_filter.mp h).1
  have hbA : ¬ (fun q : Nat => s.heap.size ≤ q) b := Nat.not_le.mpr hbl
  have hAd1 : ∀ a, a < s.heap.size → (fun q : Nat => s.heap.size ≤ q) a → nb_A xc_sh ad1 a := fun a h1 h2 => absurd h1 (Nat.not_lt.mpr h2)
  have hAd2 : ∀ a, a < s.heap.size → (fun q : Nat => s.heap.size ≤ q) a → nb_A xm_sh ad2 a := fun a h1 h2 => absurd h1 (Nat.not_lt.mpr h2)
  have hin1 : vp_in (nI i + (1 : Int32)) L := by rw [show nI i + (1 : Int32) = nI (i + 1) from nI_add i 1]; exact vp_in_nI (by omega) (by omega)
  have hin2 : vp_in (nI i + (2 : Int32)) L := by rw [show nI i + (2 : Int32) = nI (i + 2) from nI_add i 2]; exact vp_in_nI (by omega) (by omega)
  have hin3 : vp_in (nI i + (3 : Int32)) L := by rw [show nI i + (3 : Int32) = nI (i + 3) from nI_add i 3]; exact vp_in_nI (by omega) (by omega)
  refine lv_aload_n hx hb dL_law_730 rfl (lv_at hl 1 rfl) ?_
  refine lv_aload_n hx hb dL_law_731 rfl (lv_at hl 0 rfl) ?_
  refine lv_iload_n hx hb dL_law_732 rfl (lv_at hl 3 rfl) ?_
  refine lv_iconst (v := (1 : Int32)) hx hb dL_law_733 (by decide) ?_
  refine lv_iadd hx hb dL_law_734 ?_
  refine va_sld hx hb hX hbl hbA hS hin1 dL_law_735 ?_
  refine lv_aload_n hx hb dL_law_736 rfl (lv_at hl 0 rfl) ?_
  refine lv_iload_n hx hb dL_law_737 rfl (lv_at hl 3 rfl) ?_
  refine lv_iconst (v := (2 : Int32)) hx hb dL_law_738 (by decide) ?_
  refine lv_iadd hx hb dL_law_739 ?_
  refine va_sld hx hb hX hbl hbA hS hin2 dL_law_740 ?_
  refine lv_aload_n hx hb dL_law_741 rfl (lv_at hl 0 rfl) ?_
  refine lv_iload_n hx hb dL_law_742 rfl (lv_at hl 3 rfl) ?_
  refine lv_iconst (v := (3 : Int32)) hx hb dL_law_743 (by decide) ?_
  refine lv_iadd hx hb dL_law_744 ?_
  refine va_sld hx hb hX hbl hbA hS hin3 dL_law_745 ?_
  refine nl_ci (G := (D, ad1, cA)) hS hA1 (va_runV (As := [.int (xs (nI i + (1 : Int32)).toNatClampNeg), .int (xs (nI i + (2 : Int32)).toNatClampNeg), .int (xs (nI i + (3 : Int32)).toNatClampNeg)]) (rest := []) ⟨hx, hb, hml, hown, hts⟩ (c_X7_leave l (G := (D, ad1, cA)) (tb := tb) hi1 xc_Zok (N := N) h1) (cwV 3 hts (xg_V tw4_38 tw4_39 tw4_40 tw1_1 tw4_41) rfl rfl rfl (by decide +kernel) ⟨Nat.le_of_ble_eq_true rfl, Nat.le_of_ble_eq_true rfl⟩) (nl_preV (G := (D, ad1, cA)) hK hZ1 xc_Zok hP1 hS hAd1 (k := 0) rfl rfl) rfl rfl hl.1 rfl (lv_room (Nat.le_of_ble_eq_true rfl)) dL_law_746 ⟨Nat.le_of_ble_eq_true rfl, Nat.le_of_ble_eq_true rfl⟩) (fun H locs hP1 hk hS => ?_)
  have hP1 : va_P D vwCl (nb_cs xc_sh ad1 cA σ) H := hP1
  have hP2 := nb_keep (sh := xc_sh) (ad := ad1) hP2 hd hk
  refine lv_aload_n hx hb dL_law_749 rfl (lv_at hl 2 rfl) ?_
  refine lv_aload_n hx hb dL_law_750 rfl (lv_at hl 0 rfl) ?_
  refine lv_iload_n hx hb dL_law_751 rfl (lv_at hl 3 rfl) ?_
  refine lv_iconst (v := (1 : Int32)) hx hb dL_law_752 (by decide) ?_
  refine lv_iadd hx hb dL_law_753 ?_
  refine va_sld hx hb hX hbl hbA hS hin1 dL_law_754 ?_
  refine lv_aload_n hx hb dL_law_755 rfl (lv_at hl 0 rfl) ?_
  refine lv_iload_n hx hb dL_law_756 rfl (lv_at hl 3 rfl) ?_
  refine lv_iconst (v := (2 : Int32)) hx hb dL_law_757 (by decide) ?_
  refine lv_iadd hx hb dL_law_758 ?_
  refine va_sld hx hb hX hbl hbA hS hin2 dL_law_759 ?_
  refine lv_aload_n hx hb dL_law_760 rfl (lv_at hl 0 rfl) ?_
  refine lv_iload_n hx hb dL_law_761 rfl (lv_at hl 3 rfl) ?_
  refine lv_iconst (v := (3 : Int32)) hx hb dL_law_762 (by decide) ?_
  refine lv_iadd hx hb dL_law_763 ?_
  refine va_sld hx hb hX hbl hbA hS hin3 dL_law_764 ?_
  refine nl_ci (G := (D, ad2, cA)) hS hA2 (va_runV (As := [.int (xs (nI i + (1 : Int32)).toNatClampNeg), .int (xs (nI i + (2 : Int32)).toNatClampNeg), .int (xs (nI i + (3 : Int32)).toNatClampNeg)]) (rest := [.int r]) ⟨hx, hb, hml, hown, hts⟩ (c_X8_leave l (G := (D, ad2, cA)) (Z := fun _ _ => True) hi2 nb_Tok (N := N) h2) (cwV 3 hts (xg_V tw5_239 tw6_0 tw6_1 tw1_10 tw6_2) rfl rfl rfl (by decide +kernel) ⟨Nat.le_of_ble_eq_true rfl, Nat.le_of_ble_eq_true rfl⟩) (nl_preV (G := (D, ad2, cA)) (Z := fun _ _ => True) hK trivial nb_Tok hP2 hS hAd2 (k := 0) rfl rfl) rfl rfl hl.1 rfl (lv_room (Nat.le_of_ble_eq_true rfl)) dL_law_765 ⟨Nat.le_of_ble_eq_true rfl, Nat.le_of_ble_eq_true rfl⟩) (fun H locs hP2 hk hS => ?_)
  have hP2 : va_P D vwCl (nb_cs xm_sh ad2 cA τ) H := hP2
  have hP1 := nb_keep (sh := xm_sh) (ad := ad2) hP1 (fun i j g1 g2 e => hd j i g2 g1 e.symm) hk
  refine lv_icmp_eq (tgt := 924) hx hb dL_law_768 (by decide) (fun c1 => ?_) (fun c1 => absurd rfl c1)
  exact hnext _ _ _ hP1 hP2 hS hl
set_option maxHeartbeats 4000000 in
set_option maxRecDepth 100000 in
theorem lc_drawn {p : Program} {l : Launch} {e : Env} {s : State} {m : MethodId} {below : List Frame} {meth : Method} {c : Code} {D : va_G} {cA : Nat → ClassId} {ad1 ad2 tb : Nat → Nat} {b L : Nat} {xs : Nat → Int32} (hL : L ≤ 2048) (C0 : lw_At p s m meth c b L xs) (hK : va_K D vwCl (nb_ty cA) s) (hi1 : nb_inj xc_sh ad1) (hi2 : nb_inj xm_sh ad2) (hA1 : ∀ q, nb_A xc_sh ad1 q → s.heap.size ≤ q) (hA2 : ∀ q, nb_A xm_sh ad2 q → s.heap.size ≤ q) (hd : ∀ i j, i < xc_sh.length → j < xm_sh.length → ad1 i ≠ ad2 j) (hZ1 : xc_Z (nb_A xc_sh ad1) tb s s.heap) {i : Nat} (hi : i + 4 ≤ L) {N : Nat} {r : Int32} {σ τ σo τo : nb_St} (h1 : fX7_drawn N σ (xs (nI i + (1 : Int32)).toNatClampNeg) (xs (nI i + (2 : Int32)).toNatClampNeg) = some (r, σo)) (h2 : fX8_drawn N τ (xs (nI i + (1 : Int32)).toNatClampNeg) (xs (nI i + (2 : Int32)).toNatClampNeg) = some (r, τo)) {H : Heap} {locs : List Loc} {ls : Array Slot} (hP1 : va_P D vwCl (nb_cs xc_sh ad1 cA σ) H) (hP2 : va_P D vwCl (nb_cs xm_sh ad2 cA τ) H) (hS : va_S (fun q : Nat => s.heap.size ≤ q) s.heap H locs) (hl : lv_has ls 4 [(0, .ref b), (1, .ref (ad1 0)), (2, .ref (ad2 0)), (3, .int (nI i))]) (hnext : ∀ (H : Heap) (locs : List Loc) (ls : Array Slot), va_P D vwCl (nb_cs xc_sh ad1 cA σo) H → va_P D vwCl (nb_cs xm_sh ad2 cA τo) H → va_S (fun q : Nat => s.heap.size ≤ q) s.heap H locs → lv_has ls 4 [(0, .ref b), (1, .ref (ad1 0)), (2, .ref (ad2 0)), (3, .int (nI i))] → W p l e room_1 s m #[Value.ref b] below meth c H locs 111 1570 (lw_Z below #[Value.ref b] s) (F0 m 924 ls [])) : W p l e room_1 s m #[Value.ref b] below meth c H locs 111 1570 (lw_Z below #[Value.ref b] s) (F0 m 773 ls []) := by
  obtain ⟨hx, hb, hr, hml, hown, hts0, hX, hbl, hlocks, hgv⟩ := C0
  have hts : ∀ w ∈ xT, w.before #[Value.ref b] s = true := fun w h => hts0 w (List.mem_filter.mp h).1
  have hbA : ¬ (fun q : Nat => s.heap.size ≤ q) b := Nat.not_le.mpr hbl
  have hAd1 : ∀ a, a < s.heap.size → (fun q : Nat => s.heap.size ≤ q) a → nb_A xc_sh ad1 a := fun a h1 h2 => absurd h1 (Nat.not_lt.mpr h2)
  have hAd2 : ∀ a, a < s.heap.size → (fun q : Nat => s.heap.size ≤ q) a → nb_A xm_sh ad2 a := fun a h1 h2 => absurd h1 (Nat.not_lt.mpr h2)
  have hin1 : vp_in (nI i + (1 : Int32)) L := by rw [show nI i + (1 : Int32) = nI (i + 1) from nI_add i 1]; exact vp_in_nI (by omega) (by omega)
  have hin2 : vp_in (nI i + (2 : Int32)) L := by rw [show nI i + (2 : Int32) = nI (i + 2) from nI_add i 2]; exact vp_in_nI (by omega) (by omega)
  have hin3 : vp_in (nI i + (3 : Int32)) L := by rw [show nI i + (3 : Int32) = nI (i + 3) from nI_add i 3]; exact vp_in_nI (by omega) (by omega)
  refine lv_aload_n hx hb dL_law_773 rfl (lv_at hl 1 rfl) ?_
  refine lv_aload_n hx hb dL_law_774 rfl (lv_at hl 0 rfl) ?_
  refine lv_iload_n hx hb dL_law_775 rfl (lv_at hl 3 rfl) ?_
  refine lv_iconst (v := (1 : Int32)) hx hb dL_law_776 (by decide) ?_
  refine lv_iadd hx hb dL_law_777 ?_
  refine va_sld hx hb hX hbl hbA hS hin1 dL_law_778 ?_
  refine lv_aload_n hx hb dL_law_779 rfl (lv_at hl 0 rfl) ?_
  refine lv_iload_n hx hb dL_law_780 rfl (lv_at hl 3 rfl) ?_
  refine lv_iconst (v := (2 : Int32)) hx hb dL_law_781 (by decide) ?_
  refine lv_iadd hx hb dL_law_782 ?_
  refine va_sld hx hb hX hbl hbA hS hin2 dL_law_783 ?_
  refine nl_ci (G := (D, ad1, cA)) hS hA1 (va_runV (As := [.int (xs (nI i + (1 : Int32)).toNatClampNeg), .int (xs (nI i + (2 : Int32)).toNatClampNeg)]) (rest := []) ⟨hx, hb, hml, hown, hts⟩ (c_X7_drawn l (G := (D, ad1, cA)) (tb := tb) hi1 xc_Zok (N := N) h1) (cwV 2 hts (xg_V tw4_48 tw4_49 tw4_50 tw1_1 tw4_51) rfl rfl rfl (by decide +kernel) ⟨Nat.le_of_ble_eq_true rfl, Nat.le_of_ble_eq_true rfl⟩) (nl_preV (G := (D, ad1, cA)) hK hZ1 xc_Zok hP1 hS hAd1 (k := 0) rfl rfl) rfl rfl hl.1 rfl (lv_room (Nat.le_of_ble_eq_true rfl)) dL_law_784 ⟨Nat.le_of_ble_eq_true rfl, Nat.le_of_ble_eq_true rfl⟩) (fun H locs hP1 hk hS => ?_)
  have hP1 : va_P D vwCl (nb_cs xc_sh ad1 cA σo) H := hP1
  have hP2 := nb_keep (sh := xc_sh) (ad := ad1) hP2 hd hk
  refine lv_aload_n hx hb dL_law_787 rfl (lv_at hl 2 rfl) ?_
  refine lv_aload_n hx hb dL_law_788 rfl (lv_at hl 0 rfl) ?_
  refine lv_iload_n hx hb dL_law_789 rfl (lv_at hl 3 rfl) ?_
  refine lv_iconst (v := (1 : Int32)) hx hb dL_law_790 (by decide) ?_
  refine lv_iadd hx hb dL_law_791 ?_
  refine va_sld hx hb hX hbl hbA hS hin1 dL_law_792 ?_
  refine lv_aload_n hx hb dL_law_793 rfl (lv_at hl 0 rfl) ?_
  refine lv_iload_n hx hb dL_law_794 rfl (lv_at hl 3 rfl) ?_
  refine lv_iconst (v := (2 : Int32)) hx hb dL_law_795 (by decide) ?_
  refine lv_iadd hx hb dL_law_796 ?_
  refine va_sld hx hb hX hbl hbA hS hin2 dL_law_797 ?_
  refine nl_ci (G := (D, ad2, cA)) hS hA2 (va_runV (As := [.int (xs (nI i + (1 : Int32)).toNatClampNeg), .int (xs (nI i + (2 : Int32)).toNatClampNeg)]) (rest := [.int r]) ⟨hx, hb, hml, hown, hts⟩ (c_X8_drawn l (G := (D, ad2, cA)) (Z := fun _ _ => True) hi2 nb_Tok (N := N) h2) (cwV 2 hts (xg_V tw6_8 tw6_9 tw6_10 tw1_10 tw6_11) rfl rfl rfl (by decide +kernel) ⟨Nat.le_of_ble_eq_true rfl, Nat.le_of_ble_eq_true rfl⟩) (nl_preV (G := (D, ad2, cA)) (Z := fun _ _ => True) hK trivial nb_Tok hP2 hS hAd2 (k := 0) rfl rfl) rfl rfl hl.1 rfl (lv_room (Nat.le_of_ble_eq_true rfl)) dL_law_798 ⟨Nat.le_of_ble_eq_true rfl, Nat.le_of_ble_eq_true rfl⟩) (fun H locs hP2 hk hS => ?_)
  have hP2 : va_P D vwCl (nb_cs xm_sh ad2 cA τo) H := hP2
  have hP1 := nb_keep (sh := xm_sh) (ad := ad2) hP1 (fun i j g1 g2 e => hd j i g2 g1 e.symm) hk
  refine lv_icmp_eq (tgt := 924) hx hb dL_law_801 (by decide) (fun c1 => ?_) (fun c1 => absurd rfl c1)
  exact hnext _ _ _ hP1 hP2 hS hl
set_option maxHeartbeats 4000000 in
set_option maxRecDepth 100000 in
theorem lc_sign {p : Program} {l : Launch} {e : Env} {s : State} {m : MethodId} {below : List Frame} {meth : Method} {c : Code} {D : va_G} {cA : Nat → ClassId} {ad1 ad2 tb : Nat → Nat} {b L : Nat} {xs : Nat → Int32} (hL : L ≤ 2048) (C0 : lw_At p s m meth c b L xs) (hK : va_K D vwCl (nb_ty cA) s) (hi1 : nb_inj xc_sh ad1) (hi2 : nb_inj xm_sh ad2) (hA1 : ∀ q, nb_A xc_sh ad1 q → s.heap.size ≤ q) (hA2 : ∀ q, nb_A xm_sh ad2 q → s.heap.size ≤ q) (hd : ∀ i j, i < xc_sh.length → j < xm_sh.length → ad1 i ≠ ad2 j) (hZ1 : xc_Z (nb_A xc_sh ad1) tb s s.heap) {i : Nat} (hi : i + 4 ≤ L) {N : Nat} {r : Int32} {σ τ σo τo : nb_St} (h1 : fX7_sign N σ (xs (nI i + (1 : Int32)).toNatClampNeg) (xs (nI i + (2 : Int32)).toNatClampNeg) = some (r, σo)) (h2 : fX8_sign N τ (xs (nI i + (1 : Int32)).toNatClampNeg) (xs (nI i + (2 : Int32)).toNatClampNeg) = some (r, τo)) {H : Heap} {locs : List Loc} {ls : Array Slot} (hP1 : va_P D vwCl (nb_cs xc_sh ad1 cA σ) H) (hP2 : va_P D vwCl (nb_cs xm_sh ad2 cA τ) H) (hS : va_S (fun q : Nat => s.heap.size ≤ q) s.heap H locs) (hl : lv_has ls 4 [(0, .ref b), (1, .ref (ad1 0)), (2, .ref (ad2 0)), (3, .int (nI i))]) (hnext : ∀ (H : Heap) (locs : List Loc) (ls : Array Slot), va_P D vwCl (nb_cs xc_sh ad1 cA σo) H → va_P D vwCl (nb_cs xm_sh ad2 cA τo) H → va_S (fun q : Nat => s.heap.size ≤ q) s.heap H locs → lv_has ls 4 [(0, .ref b), (1, .ref (ad1 0)), (2, .ref (ad2 0)), (3, .int (nI i))] → W p l e room_1 s m #[Value.ref b] below meth c H locs 111 1570 (lw_Z below #[Value.ref b] s) (F0 m 924 ls [])) : W p l e room_1 s m #[Value.ref b] below meth c H locs 111 1570 (lw_Z below #[Value.ref b] s) (F0 m 806 ls []) := by
  obtain ⟨hx, hb, hr, hml, hown, hts0, hX, hbl, hlocks, hgv⟩ := C0
  have hts : ∀ w ∈ xT, w.before #[Value.ref b] s = true := fun w h => hts0 w (List.mem_filter.mp h).1
  have hbA : ¬ (fun q : Nat => s.heap.size ≤ q) b := Nat.not_le.mpr hbl
  have hAd1 : ∀ a, a < s.heap.size → (fun q : Nat => s.heap.size ≤ q) a → nb_A xc_sh ad1 a := fun a h1 h2 => absurd h1 (Nat.not_lt.mpr h2)
  have hAd2 : ∀ a, a < s.heap.size → (fun q : Nat => s.heap.size ≤ q) a → nb_A xm_sh ad2 a := fun a h1 h2 => absurd h1 (Nat.not_lt.mpr h2)
  have hin1 : vp_in (nI i + (1 : Int32)) L := by rw [show nI i + (1 : Int32) = nI (i + 1) from nI_add i 1]; exact vp_in_nI (by omega) (by omega)
  have hin2 : vp_in (nI i + (2 : Int32)) L := by rw [show nI i + (2 : Int32) = nI (i + 2) from nI_add i 2]; exact vp_in_nI (by omega) (by omega)
  have hin3 : vp_in (nI i + (3 : Int32)) L := by rw [show nI i + (3 : Int32) = nI (i + 3) from nI_add i 3]; exact vp_in_nI (by omega) (by omega)
  refine lv_aload_n hx hb dL_law_806 rfl (lv_at hl 1 rfl) ?_
  refine lv_aload_n hx hb dL_law_807 rfl (lv_at hl 0 rfl) ?_
  refine lv_iload_n hx hb dL_law_808 rfl (lv_at hl 3 rfl) ?_
  refine lv_iconst (v := (1 : Int32)) hx hb dL_law_809 (by decide) ?_
  refine lv_iadd hx hb dL_law_810 ?_
  refine va_sld hx hb hX hbl hbA hS hin1 dL_law_811 ?_
  refine lv_aload_n hx hb dL_law_812 rfl (lv_at hl 0 rfl) ?_
  refine lv_iload_n hx hb dL_law_813 rfl (lv_at hl 3 rfl) ?_
  refine lv_iconst (v := (2 : Int32)) hx hb dL_law_814 (by decide) ?_
  refine lv_iadd hx hb dL_law_815 ?_
  refine va_sld hx hb hX hbl hbA hS hin2 dL_law_816 ?_
  refine nl_ci (G := (D, ad1, cA)) hS hA1 (va_runV (As := [.int (xs (nI i + (1 : Int32)).toNatClampNeg), .int (xs (nI i + (2 : Int32)).toNatClampNeg)]) (rest := []) ⟨hx, hb, hml, hown, hts⟩ (c_X7_sign l (G := (D, ad1, cA)) (tb := tb) hi1 xc_Zok (N := N) h1) (cwV 2 hts (xg_V tw4_61 tw4_62 tw4_63 tw1_1 tw4_64) rfl rfl rfl (by decide +kernel) ⟨Nat.le_of_ble_eq_true rfl, Nat.le_of_ble_eq_true rfl⟩) (nl_preV (G := (D, ad1, cA)) hK hZ1 xc_Zok hP1 hS hAd1 (k := 0) rfl rfl) rfl rfl hl.1 rfl (lv_room (Nat.le_of_ble_eq_true rfl)) dL_law_817 ⟨Nat.le_of_ble_eq_true rfl, Nat.le_of_ble_eq_true rfl⟩) (fun H locs hP1 hk hS => ?_)
  have hP1 : va_P D vwCl (nb_cs xc_sh ad1 cA σo) H := hP1
  have hP2 := nb_keep (sh := xc_sh) (ad := ad1) hP2 hd hk
  refine lv_aload_n hx hb dL_law_820 rfl (lv_at hl 2 rfl) ?_
  refine lv_aload_n hx hb dL_law_821 rfl (lv_at hl 0 rfl) ?_
  refine lv_iload_n hx hb dL_law_822 rfl (lv_at hl 3 rfl) ?_
  refine lv_iconst (v := (1 : Int32)) hx hb dL_law_823 (by decide) ?_
  refine lv_iadd hx hb dL_law_824 ?_
  refine va_sld hx hb hX hbl hbA hS hin1 dL_law_825 ?_
  refine lv_aload_n hx hb dL_law_826 rfl (lv_at hl 0 rfl) ?_
  refine lv_iload_n hx hb dL_law_827 rfl (lv_at hl 3 rfl) ?_
  refine lv_iconst (v := (2 : Int32)) hx hb dL_law_828 (by decide) ?_
  refine lv_iadd hx hb dL_law_829 ?_
  refine va_sld hx hb hX hbl hbA hS hin2 dL_law_830 ?_
  refine nl_ci (G := (D, ad2, cA)) hS hA2 (va_runV (As := [.int (xs (nI i + (1 : Int32)).toNatClampNeg), .int (xs (nI i + (2 : Int32)).toNatClampNeg)]) (rest := [.int r]) ⟨hx, hb, hml, hown, hts⟩ (c_X8_sign l (G := (D, ad2, cA)) (Z := fun _ _ => True) hi2 nb_Tok (N := N) h2) (cwV 2 hts (xg_V tw6_13 tw6_14 tw6_15 tw1_10 tw6_16) rfl rfl rfl (by decide +kernel) ⟨Nat.le_of_ble_eq_true rfl, Nat.le_of_ble_eq_true rfl⟩) (nl_preV (G := (D, ad2, cA)) (Z := fun _ _ => True) hK trivial nb_Tok hP2 hS hAd2 (k := 0) rfl rfl) rfl rfl hl.1 rfl (lv_room (Nat.le_of_ble_eq_true rfl)) dL_law_831 ⟨Nat.le_of_ble_eq_true rfl, Nat.le_of_ble_eq_true rfl⟩) (fun H locs hP2 hk hS => ?_)
  have hP2 : va_P D vwCl (nb_cs xm_sh ad2 cA τo) H := hP2
  have hP1 := nb_keep (sh := xm_sh) (ad := ad2) hP1 (fun i j g1 g2 e => hd j i g2 g1 e.symm) hk
  refine lv_icmp_eq (tgt := 924) hx hb dL_law_834 (by decide) (fun c1 => ?_) (fun c1 => absurd rfl c1)
  exact hnext _ _ _ hP1 hP2 hS hl
set_option maxHeartbeats 4000000 in
set_option maxRecDepth 100000 in
theorem lc_say {p : Program} {l : Launch} {e : Env} {s : State} {m : MethodId} {below : List Frame} {meth : Method} {c : Code} {D : va_G} {cA : Nat → ClassId} {ad1 ad2 tb : Nat → Nat} {b L : Nat} {xs : Nat → Int32} (hL : L ≤ 2048) (C0 : lw_At p s m meth c b L xs) (hK : va_K D vwCl (nb_ty cA) s) (hi1 : nb_inj xc_sh ad1) (hi2 : nb_inj xm_sh ad2) (hA1 : ∀ q, nb_A xc_sh ad1 q → s.heap.size ≤ q) (hA2 : ∀ q, nb_A xm_sh ad2 q → s.heap.size ≤ q) (hd : ∀ i j, i < xc_sh.length → j < xm_sh.length → ad1 i ≠ ad2 j) (hZ1 : xc_Z (nb_A xc_sh ad1) tb s s.heap) {i : Nat} (hi : i + 4 ≤ L) {N : Nat} {r : Int32} {σ τ σo τo : nb_St} (h1 : fX7_say N σ (xs (nI i + (1 : Int32)).toNatClampNeg) = some (r, σo)) (h2 : fX8_say N τ (xs (nI i + (1 : Int32)).toNatClampNeg) = some (r, τo)) {H : Heap} {locs : List Loc} {ls : Array Slot} (hP1 : va_P D vwCl (nb_cs xc_sh ad1 cA σ) H) (hP2 : va_P D vwCl (nb_cs xm_sh ad2 cA τ) H) (hS : va_S (fun q : Nat => s.heap.size ≤ q) s.heap H locs) (hl : lv_has ls 4 [(0, .ref b), (1, .ref (ad1 0)), (2, .ref (ad2 0)), (3, .int (nI i))]) (hnext : ∀ (H : Heap) (locs : List Loc) (ls : Array Slot), va_P D vwCl (nb_cs xc_sh ad1 cA σo) H → va_P D vwCl (nb_cs xm_sh ad2 cA τo) H → va_S (fun q : Nat => s.heap.size ≤ q) s.heap H locs → lv_has ls 4 [(0, .ref b), (1, .ref (ad1 0)), (2, .ref (ad2 0)), (3, .int (nI i))] → W p l e room_1 s m #[Value.ref b] below meth c H locs 111 1570 (lw_Z below #[Value.ref b] s) (F0 m 924 ls [])) : W p l e room_1 s m #[Value.ref b] below meth c H locs 111 1570 (lw_Z below #[Value.ref b] s) (F0 m 839 ls []) := by
  obtain ⟨hx, hb, hr, hml, hown, hts0, hX, hbl, hlocks, hgv⟩ := C0
  have hts : ∀ w ∈ xT, w.before #[Value.ref b] s = true := fun w h => hts0 w (List.mem_filter.mp h).1
  have hbA : ¬ (fun q : Nat => s.heap.size ≤ q) b := Nat.not_le.mpr hbl
  have hAd1 : ∀ a, a < s.heap.size → (fun q : Nat => s.heap.size ≤ q) a → nb_A xc_sh ad1 a := fun a h1 h2 => absurd h1 (Nat.not_lt.mpr h2)
  have hAd2 : ∀ a, a < s.heap.size → (fun q : Nat => s.heap.size ≤ q) a → nb_A xm_sh ad2 a := fun a h1 h2 => absurd h1 (Nat.not_lt.mpr h2)
  have hin1 : vp_in (nI i + (1 : Int32)) L := by rw [show nI i + (1 : Int32) = nI (i + 1) from nI_add i 1]; exact vp_in_nI (by omega) (by omega)
  have hin2 : vp_in (nI i + (2 : Int32)) L := by rw [show nI i + (2 : Int32) = nI (i + 2) from nI_add i 2]; exact vp_in_nI (by omega) (by omega)
  have hin3 : vp_in (nI i + (3 : Int32)) L := by rw [show nI i + (3 : Int32) = nI (i + 3) from nI_add i 3]; exact vp_in_nI (by omega) (by omega)
  refine lv_aload_n hx hb dL_law_839 rfl (lv_at hl 1 rfl) ?_
  refine lv_aload_n hx hb dL_law_840 rfl (lv_at hl 0 rfl) ?_
  refine lv_iload_n hx hb dL_law_841 rfl (lv_at hl 3 rfl) ?_
  refine lv_iconst (v := (1 : Int32)) hx hb dL_law_842 (by decide) ?_
  refine lv_iadd hx hb dL_law_843 ?_
  refine va_sld hx hb hX hbl hbA hS hin1 dL_law_844 ?_
  refine nl_ci (G := (D, ad1, cA)) hS hA1 (va_runV (As := [.int (xs (nI i + (1 : Int32)).toNatClampNeg)]) (rest := []) ⟨hx, hb, hml, hown, hts⟩ (c_X7_say l (G := (D, ad1, cA)) (tb := tb) hi1 xc_Zok (N := N) h1) (cwV 1 hts (xg_V tw4_70 tw4_71 tw4_72 tw1_1 tw4_73) rfl rfl rfl (by decide +kernel) ⟨Nat.le_of_ble_eq_true rfl, Nat.le_of_ble_eq_true rfl⟩) (nl_preV (G := (D, ad1, cA)) hK hZ1 xc_Zok hP1 hS hAd1 (k := 0) rfl rfl) rfl rfl hl.1 rfl (lv_room (Nat.le_of_ble_eq_true rfl)) dL_law_845 ⟨Nat.le_of_ble_eq_true rfl, Nat.le_of_ble_eq_true rfl⟩) (fun H locs hP1 hk hS => ?_)
  have hP1 : va_P D vwCl (nb_cs xc_sh ad1 cA σo) H := hP1
  have hP2 := nb_keep (sh := xc_sh) (ad := ad1) hP2 hd hk
  refine lv_aload_n hx hb dL_law_848 rfl (lv_at hl 2 rfl) ?_
  refine lv_aload_n hx hb dL_law_849 rfl (lv_at hl 0 rfl) ?_
  refine lv_iload_n hx hb dL_law_850 rfl (lv_at hl 3 rfl) ?_
  refine lv_iconst (v := (1 : Int32)) hx hb dL_law_851 (by decide) ?_
  refine lv_iadd hx hb dL_law_852 ?_
  refine va_sld hx hb hX hbl hbA hS hin1 dL_law_853 ?_
  refine nl_ci (G := (D, ad2, cA)) hS hA2 (va_runV (As := [.int (xs (nI i + (1 : Int32)).toNatClampNeg)]) (rest := [.int r]) ⟨hx, hb, hml, hown, hts⟩ (c_X8_say l (G := (D, ad2, cA)) (Z := fun _ _ => True) hi2 nb_Tok (N := N) h2) (cwV 1 hts (xg_V tw6_21 tw6_22 tw6_23 tw1_10 tw6_24) rfl rfl rfl (by decide +kernel) ⟨Nat.le_of_ble_eq_true rfl, Nat.le_of_ble_eq_true rfl⟩) (nl_preV (G := (D, ad2, cA)) (Z := fun _ _ => True) hK trivial nb_Tok hP2 hS hAd2 (k := 0) rfl rfl) rfl rfl hl.1 rfl (lv_room (Nat.le_of_ble_eq_true rfl)) dL_law_854 ⟨Nat.le_of_ble_eq_true rfl, Nat.le_of_ble_eq_true rfl⟩) (fun H locs hP2 hk hS => ?_)
  have hP2 : va_P D vwCl (nb_cs xm_sh ad2 cA τo) H := hP2
  have hP1 := nb_keep (sh := xm_sh) (ad := ad2) hP1 (fun i j g1 g2 e => hd j i g2 g1 e.symm) hk
  refine lv_icmp_eq (tgt := 924) hx hb dL_law_857 (by decide) (fun c1 => ?_) (fun c1 => absurd rfl c1)
  exact hnext _ _ _ hP1 hP2 hS hl
set_option maxHeartbeats 4000000 in
set_option maxRecDepth 100000 in
theorem lc_takeBack {p : Program} {l : Launch} {e : Env} {s : State} {m : MethodId} {below : List Frame} {meth : Method} {c : Code} {D : va_G} {cA : Nat → ClassId} {ad1 ad2 tb : Nat → Nat} {b L : Nat} {xs : Nat → Int32} (hL : L ≤ 2048) (C0 : lw_At p s m meth c b L xs) (hK : va_K D vwCl (nb_ty cA) s) (hi1 : nb_inj xc_sh ad1) (hi2 : nb_inj xm_sh ad2) (hA1 : ∀ q, nb_A xc_sh ad1 q → s.heap.size ≤ q) (hA2 : ∀ q, nb_A xm_sh ad2 q → s.heap.size ≤ q) (hd : ∀ i j, i < xc_sh.length → j < xm_sh.length → ad1 i ≠ ad2 j) (hZ1 : xc_Z (nb_A xc_sh ad1) tb s s.heap) {i : Nat} (hi : i + 4 ≤ L) {N : Nat} {r : Int32} {σ τ σo τo : nb_St} (h1 : fX7_takeBack N σ  = some (r, σo)) (h2 : fX8_takeBack N τ  = some (r, τo)) {H : Heap} {locs : List Loc} {ls : Array Slot} (hP1 : va_P D vwCl (nb_cs xc_sh ad1 cA σ) H) (hP2 : va_P D vwCl (nb_cs xm_sh ad2 cA τ) H) (hS : va_S (fun q : Nat => s.heap.size ≤ q) s.heap H locs) (hl : lv_has ls 4 [(0, .ref b), (1, .ref (ad1 0)), (2, .ref (ad2 0)), (3, .int (nI i))]) (hnext : ∀ (H : Heap) (locs : List Loc) (ls : Array Slot), va_P D vwCl (nb_cs xc_sh ad1 cA σo) H → va_P D vwCl (nb_cs xm_sh ad2 cA τo) H → va_S (fun q : Nat => s.heap.size ≤ q) s.heap H locs → lv_has ls 4 [(0, .ref b), (1, .ref (ad1 0)), (2, .ref (ad2 0)), (3, .int (nI i))] → W p l e room_1 s m #[Value.ref b] below meth c H locs 111 1570 (lw_Z below #[Value.ref b] s) (F0 m 924 ls [])) : W p l e room_1 s m #[Value.ref b] below meth c H locs 111 1570 (lw_Z below #[Value.ref b] s) (F0 m 862 ls []) := by
  obtain ⟨hx, hb, hr, hml, hown, hts0, hX, hbl, hlocks, hgv⟩ := C0
  have hts : ∀ w ∈ xT, w.before #[Value.ref b] s = true := fun w h => hts0 w (List.mem_filter.mp h).1
  have hbA : ¬ (fun q : Nat => s.heap.size ≤ q) b := Nat.not_le.mpr hbl
  have hAd1 : ∀ a, a < s.heap.size → (fun q : Nat => s.heap.size ≤ q) a → nb_A xc_sh ad1 a := fun a h1 h2 => absurd h1 (Nat.not_lt.mpr h2)
  have hAd2 : ∀ a, a < s.heap.size → (fun q : Nat => s.heap.size ≤ q) a → nb_A xm_sh ad2 a := fun a h1 h2 => absurd h1 (Nat.not_lt.mpr h2)
  have hin1 : vp_in (nI i + (1 : Int32)) L := by rw [show nI i + (1 : Int32) = nI (i + 1) from nI_add i 1]; exact vp_in_nI (by omega) (by omega)
  have hin2 : vp_in (nI i + (2 : Int32)) L := by rw [show nI i + (2 : Int32) = nI (i + 2) from nI_add i 2]; exact vp_in_nI (by omega) (by omega)
  have hin3 : vp_in (nI i + (3 : Int32)) L := by rw [show nI i + (3 : Int32) = nI (i + 3) from nI_add i 3]; exact vp_in_nI (by omega) (by omega)
  refine lv_aload_n hx hb dL_law_862 rfl (lv_at hl 1 rfl) ?_
  refine nl_ci (G := (D, ad1, cA)) hS hA1 (va_runV (As := []) (rest := []) ⟨hx, hb, hml, hown, hts⟩ (c_X7_takeBack l (G := (D, ad1, cA)) (tb := tb) hi1 xc_Zok (N := N) h1) (cwV 0 hts (xg_V tw4_75 tw4_76 tw4_77 tw1_1 tw4_78) rfl rfl rfl (by decide +kernel) ⟨Nat.le_of_ble_eq_true rfl, Nat.le_of_ble_eq_true rfl⟩) (nl_preV (G := (D, ad1, cA)) hK hZ1 xc_Zok hP1 hS hAd1 (k := 0) rfl rfl) rfl rfl hl.1 rfl (lv_room (Nat.le_of_ble_eq_true rfl)) dL_law_863 ⟨Nat.le_of_ble_eq_true rfl, Nat.le_of_ble_eq_true rfl⟩) (fun H locs hP1 hk hS => ?_)
  have hP1 : va_P D vwCl (nb_cs xc_sh ad1 cA σo) H := hP1
  have hP2 := nb_keep (sh := xc_sh) (ad := ad1) hP2 hd hk
  refine lv_aload_n hx hb dL_law_866 rfl (lv_at hl 2 rfl) ?_
  refine nl_ci (G := (D, ad2, cA)) hS hA2 (va_runV (As := []) (rest := [.int r]) ⟨hx, hb, hml, hown, hts⟩ (c_X8_takeBack l (G := (D, ad2, cA)) (Z := fun _ _ => True) hi2 nb_Tok (N := N) h2) (cwV 0 hts (xg_V tw6_25 tw6_26 tw6_27 tw1_10 tw6_28) rfl rfl rfl (by decide +kernel) ⟨Nat.le_of_ble_eq_true rfl, Nat.le_of_ble_eq_true rfl⟩) (nl_preV (G := (D, ad2, cA)) (Z := fun _ _ => True) hK trivial nb_Tok hP2 hS hAd2 (k := 0) rfl rfl) rfl rfl hl.1 rfl (lv_room (Nat.le_of_ble_eq_true rfl)) dL_law_867 ⟨Nat.le_of_ble_eq_true rfl, Nat.le_of_ble_eq_true rfl⟩) (fun H locs hP2 hk hS => ?_)
  have hP2 : va_P D vwCl (nb_cs xm_sh ad2 cA τo) H := hP2
  have hP1 := nb_keep (sh := xm_sh) (ad := ad2) hP1 (fun i j g1 g2 e => hd j i g2 g1 e.symm) hk
  refine lv_icmp_eq (tgt := 924) hx hb dL_law_870 (by decide) (fun c1 => ?_) (fun c1 => absurd rfl c1)
  exact hnext _ _ _ hP1 hP2 hS hl
set_option maxHeartbeats 4000000 in
set_option maxRecDepth 100000 in
theorem lc_keep {p : Program} {l : Launch} {e : Env} {s : State} {m : MethodId} {below : List Frame} {meth : Method} {c : Code} {D : va_G} {cA : Nat → ClassId} {ad1 ad2 tb : Nat → Nat} {b L : Nat} {xs : Nat → Int32} (hL : L ≤ 2048) (C0 : lw_At p s m meth c b L xs) (hK : va_K D vwCl (nb_ty cA) s) (hi1 : nb_inj xc_sh ad1) (hi2 : nb_inj xm_sh ad2) (hA1 : ∀ q, nb_A xc_sh ad1 q → s.heap.size ≤ q) (hA2 : ∀ q, nb_A xm_sh ad2 q → s.heap.size ≤ q) (hd : ∀ i j, i < xc_sh.length → j < xm_sh.length → ad1 i ≠ ad2 j) (hZ1 : xc_Z (nb_A xc_sh ad1) tb s s.heap) {i : Nat} (hi : i + 4 ≤ L) {N : Nat} {r : Int32} {σ τ σo τo : nb_St} (h1 : fX7_keep N σ  = some (r, σo)) (h2 : fX8_keep N τ  = some (r, τo)) {H : Heap} {locs : List Loc} {ls : Array Slot} (hP1 : va_P D vwCl (nb_cs xc_sh ad1 cA σ) H) (hP2 : va_P D vwCl (nb_cs xm_sh ad2 cA τ) H) (hS : va_S (fun q : Nat => s.heap.size ≤ q) s.heap H locs) (hl : lv_has ls 4 [(0, .ref b), (1, .ref (ad1 0)), (2, .ref (ad2 0)), (3, .int (nI i))]) (hnext : ∀ (H : Heap) (locs : List Loc) (ls : Array Slot), va_P D vwCl (nb_cs xc_sh ad1 cA σo) H → va_P D vwCl (nb_cs xm_sh ad2 cA τo) H → va_S (fun q : Nat => s.heap.size ≤ q) s.heap H locs → lv_has ls 4 [(0, .ref b), (1, .ref (ad1 0)), (2, .ref (ad2 0)), (3, .int (nI i))] → W p l e room_1 s m #[Value.ref b] below meth c H locs 111 1570 (lw_Z below #[Value.ref b] s) (F0 m 924 ls [])) : W p l e room_1 s m #[Value.ref b] below meth c H locs 111 1570 (lw_Z below #[Value.ref b] s) (F0 m 875 ls []) := by
  obtain ⟨hx, hb, hr, hml, hown, hts0, hX, hbl, hlocks, hgv⟩ := C0
  have hts : ∀ w ∈ xT, w.before #[Value.ref b] s = true := fun w h => hts0 w (List.mem_filter.mp h).1
  have hbA : ¬ (fun q : Nat => s.heap.size ≤ q) b := Nat.not_le.mpr hbl
  have hAd1 : ∀ a, a < s.heap.size → (fun q : Nat => s.heap.size ≤ q) a → nb_A xc_sh ad1 a := fun a h1 h2 => absurd h1 (Nat.not_lt.mpr h2)
  have hAd2 : ∀ a, a < s.heap.size → (fun q : Nat => s.heap.size ≤ q) a → nb_A xm_sh ad2 a := fun a h1 h2 => absurd h1 (Nat.not_lt.mpr h2)
  have hin1 : vp_in (nI i + (1 : Int32)) L := by rw [show nI i + (1 : Int32) = nI (i + 1) from nI_add i 1]; exact vp_in_nI (by omega) (by omega)
  have hin2 : vp_in (nI i + (2 : Int32)) L := by rw [show nI i + (2 : Int32) = nI (i + 2) from nI_add i 2]; exact vp_in_nI (by omega) (by omega)
  have hin3 : vp_in (nI i + (3 : Int32)) L := by rw [show nI i + (3 : Int32) = nI (i + 3) from nI_add i 3]; exact vp_in_nI (by omega) (by omega)
  refine lv_aload_n hx hb dL_law_875 rfl (lv_at hl 1 rfl) ?_
  refine nl_ci (G := (D, ad1, cA)) hS hA1 (va_runV (As := []) (rest := []) ⟨hx, hb, hml, hown, hts⟩ (c_X7_keep l (G := (D, ad1, cA)) (tb := tb) hi1 xc_Zok (N := N) h1) (cwV 0 hts (xg_V tw4_84 tw4_85 tw4_86 tw1_1 tw4_87) rfl rfl rfl (by decide +kernel) ⟨Nat.le_of_ble_eq_true rfl, Nat.le_of_ble_eq_true rfl⟩) (nl_preV (G := (D, ad1, cA)) hK hZ1 xc_Zok hP1 hS hAd1 (k := 0) rfl rfl) rfl rfl hl.1 rfl (lv_room (Nat.le_of_ble_eq_true rfl)) dL_law_876 ⟨Nat.le_of_ble_eq_true rfl, Nat.le_of_ble_eq_true rfl⟩) (fun H locs hP1 hk hS => ?_)
  have hP1 : va_P D vwCl (nb_cs xc_sh ad1 cA σo) H := hP1
  have hP2 := nb_keep (sh := xc_sh) (ad := ad1) hP2 hd hk
  refine lv_aload_n hx hb dL_law_879 rfl (lv_at hl 2 rfl) ?_
  refine nl_ci (G := (D, ad2, cA)) hS hA2 (va_runV (As := []) (rest := [.int r]) ⟨hx, hb, hml, hown, hts⟩ (c_X8_keep l (G := (D, ad2, cA)) (Z := fun _ _ => True) hi2 nb_Tok (N := N) h2) (cwV 0 hts (xg_V tw6_29 tw6_30 tw6_31 tw1_10 tw6_32) rfl rfl rfl (by decide +kernel) ⟨Nat.le_of_ble_eq_true rfl, Nat.le_of_ble_eq_true rfl⟩) (nl_preV (G := (D, ad2, cA)) (Z := fun _ _ => True) hK trivial nb_Tok hP2 hS hAd2 (k := 0) rfl rfl) rfl rfl hl.1 rfl (lv_room (Nat.le_of_ble_eq_true rfl)) dL_law_880 ⟨Nat.le_of_ble_eq_true rfl, Nat.le_of_ble_eq_true rfl⟩) (fun H locs hP2 hk hS => ?_)
  have hP2 : va_P D vwCl (nb_cs xm_sh ad2 cA τo) H := hP2
  have hP1 := nb_keep (sh := xm_sh) (ad := ad2) hP1 (fun i j g1 g2 e => hd j i g2 g1 e.symm) hk
  refine lv_icmp_eq (tgt := 924) hx hb dL_law_883 (by decide) (fun c1 => ?_) (fun c1 => absurd rfl c1)
  exact hnext _ _ _ hP1 hP2 hS hl
set_option maxHeartbeats 4000000 in
set_option maxRecDepth 100000 in
theorem lc_back {p : Program} {l : Launch} {e : Env} {s : State} {m : MethodId} {below : List Frame} {meth : Method} {c : Code} {D : va_G} {cA : Nat → ClassId} {ad1 ad2 tb : Nat → Nat} {b L : Nat} {xs : Nat → Int32} (hL : L ≤ 2048) (C0 : lw_At p s m meth c b L xs) (hK : va_K D vwCl (nb_ty cA) s) (hi1 : nb_inj xc_sh ad1) (hi2 : nb_inj xm_sh ad2) (hA1 : ∀ q, nb_A xc_sh ad1 q → s.heap.size ≤ q) (hA2 : ∀ q, nb_A xm_sh ad2 q → s.heap.size ≤ q) (hd : ∀ i j, i < xc_sh.length → j < xm_sh.length → ad1 i ≠ ad2 j) (hZ1 : xc_Z (nb_A xc_sh ad1) tb s s.heap) {i : Nat} (hi : i + 4 ≤ L) {N : Nat} {r : Int32} {σ τ σo τo : nb_St} (h1 : fX7_back N σ  = some (r, σo)) (h2 : fX8_back N τ  = some (r, τo)) {H : Heap} {locs : List Loc} {ls : Array Slot} (hP1 : va_P D vwCl (nb_cs xc_sh ad1 cA σ) H) (hP2 : va_P D vwCl (nb_cs xm_sh ad2 cA τ) H) (hS : va_S (fun q : Nat => s.heap.size ≤ q) s.heap H locs) (hl : lv_has ls 4 [(0, .ref b), (1, .ref (ad1 0)), (2, .ref (ad2 0)), (3, .int (nI i))]) (hnext : ∀ (H : Heap) (locs : List Loc) (ls : Array Slot), va_P D vwCl (nb_cs xc_sh ad1 cA σo) H → va_P D vwCl (nb_cs xm_sh ad2 cA τo) H → va_S (fun q : Nat => s.heap.size ≤ q) s.heap H locs → lv_has ls 4 [(0, .ref b), (1, .ref (ad1 0)), (2, .ref (ad2 0)), (3, .int (nI i))] → W p l e room_1 s m #[Value.ref b] below meth c H locs 111 1570 (lw_Z below #[Value.ref b] s) (F0 m 924 ls [])) : W p l e room_1 s m #[Value.ref b] below meth c H locs 111 1570 (lw_Z below #[Value.ref b] s) (F0 m 888 ls []) := by
  obtain ⟨hx, hb, hr, hml, hown, hts0, hX, hbl, hlocks, hgv⟩ := C0
  have hts : ∀ w ∈ xT, w.before #[Value.ref b] s = true := fun w h => hts0 w (List.mem_filter.mp h).1
  have hbA : ¬ (fun q : Nat => s.heap.size ≤ q) b := Nat.not_le.mpr hbl
  have hAd1 : ∀ a, a < s.heap.size → (fun q : Nat => s.heap.size ≤ q) a → nb_A xc_sh ad1 a := fun a h1 h2 => absurd h1 (Nat.not_lt.mpr h2)
  have hAd2 : ∀ a, a < s.heap.size → (fun q : Nat => s.heap.size ≤ q) a → nb_A xm_sh ad2 a := fun a h1 h2 => absurd h1 (Nat.not_lt.mpr h2)
  have hin1 : vp_in (nI i + (1 : Int32)) L := by rw [show nI i + (1 : Int32) = nI (i + 1) from nI_add i 1]; exact vp_in_nI (by omega) (by omega)
  have hin2 : vp_in (nI i + (2 : Int32)) L := by rw [show nI i + (2 : Int32) = nI (i + 2) from nI_add i 2]; exact vp_in_nI (by omega) (by omega)
  have hin3 : vp_in (nI i + (3 : Int32)) L := by rw [show nI i + (3 : Int32) = nI (i + 3) from nI_add i 3]; exact vp_in_nI (by omega) (by omega)
  refine lv_aload_n hx hb dL_law_888 rfl (lv_at hl 1 rfl) ?_
  refine nl_ci (G := (D, ad1, cA)) hS hA1 (va_runV (As := []) (rest := []) ⟨hx, hb, hml, hown, hts⟩ (c_X7_back l (G := (D, ad1, cA)) (tb := tb) hi1 xc_Zok (N := N) h1) (cwV 0 hts (xg_V tw4_101 tw4_102 tw4_103 tw1_1 tw4_104) rfl rfl rfl (by decide +kernel) ⟨Nat.le_of_ble_eq_true rfl, Nat.le_of_ble_eq_true rfl⟩) (nl_preV (G := (D, ad1, cA)) hK hZ1 xc_Zok hP1 hS hAd1 (k := 0) rfl rfl) rfl rfl hl.1 rfl (lv_room (Nat.le_of_ble_eq_true rfl)) dL_law_889 ⟨Nat.le_of_ble_eq_true rfl, Nat.le_of_ble_eq_true rfl⟩) (fun H locs hP1 hk hS => ?_)
  have hP1 : va_P D vwCl (nb_cs xc_sh ad1 cA σo) H := hP1
  have hP2 := nb_keep (sh := xc_sh) (ad := ad1) hP2 hd hk
  refine lv_aload_n hx hb dL_law_892 rfl (lv_at hl 2 rfl) ?_
  refine nl_ci (G := (D, ad2, cA)) hS hA2 (va_runV (As := []) (rest := [.int r]) ⟨hx, hb, hml, hown, hts⟩ (c_X8_back l (G := (D, ad2, cA)) (Z := fun _ _ => True) hi2 nb_Tok (N := N) h2) (cwV 0 hts (xg_V tw6_33 tw6_34 tw6_35 tw1_10 tw6_36) rfl rfl rfl (by decide +kernel) ⟨Nat.le_of_ble_eq_true rfl, Nat.le_of_ble_eq_true rfl⟩) (nl_preV (G := (D, ad2, cA)) (Z := fun _ _ => True) hK trivial nb_Tok hP2 hS hAd2 (k := 0) rfl rfl) rfl rfl hl.1 rfl (lv_room (Nat.le_of_ble_eq_true rfl)) dL_law_893 ⟨Nat.le_of_ble_eq_true rfl, Nat.le_of_ble_eq_true rfl⟩) (fun H locs hP2 hk hS => ?_)
  have hP2 : va_P D vwCl (nb_cs xm_sh ad2 cA τo) H := hP2
  have hP1 := nb_keep (sh := xm_sh) (ad := ad2) hP1 (fun i j g1 g2 e => hd j i g2 g1 e.symm) hk
  refine lv_icmp_eq (tgt := 924) hx hb dL_law_896 (by decide) (fun c1 => ?_) (fun c1 => absurd rfl c1)
  exact hnext _ _ _ hP1 hP2 hS hl
set_option maxHeartbeats 4000000 in
set_option maxRecDepth 100000 in
theorem lc_count {p : Program} {l : Launch} {e : Env} {s : State} {m : MethodId} {below : List Frame} {meth : Method} {c : Code} {D : va_G} {cA : Nat → ClassId} {ad1 ad2 tb : Nat → Nat} {b L : Nat} {xs : Nat → Int32} (hL : L ≤ 2048) (C0 : lw_At p s m meth c b L xs) (hK : va_K D vwCl (nb_ty cA) s) (hi1 : nb_inj xc_sh ad1) (hi2 : nb_inj xm_sh ad2) (hA1 : ∀ q, nb_A xc_sh ad1 q → s.heap.size ≤ q) (hA2 : ∀ q, nb_A xm_sh ad2 q → s.heap.size ≤ q) (hd : ∀ i j, i < xc_sh.length → j < xm_sh.length → ad1 i ≠ ad2 j) (hZ1 : xc_Z (nb_A xc_sh ad1) tb s s.heap) {i : Nat} (hi : i + 4 ≤ L) {N : Nat} {r : Int32} {σ τ  : nb_St} (h1 : fX7_count N σ (xs (nI i + (1 : Int32)).toNatClampNeg) = some r) (h2 : fX8_count N τ (xs (nI i + (1 : Int32)).toNatClampNeg) = some r) {H : Heap} {locs : List Loc} {ls : Array Slot} (hP1 : va_P D vwCl (nb_cs xc_sh ad1 cA σ) H) (hP2 : va_P D vwCl (nb_cs xm_sh ad2 cA τ) H) (hS : va_S (fun q : Nat => s.heap.size ≤ q) s.heap H locs) (hl : lv_has ls 4 [(0, .ref b), (1, .ref (ad1 0)), (2, .ref (ad2 0)), (3, .int (nI i))]) (hnext : ∀ (H : Heap) (locs : List Loc) (ls : Array Slot), va_P D vwCl (nb_cs xc_sh ad1 cA σ) H → va_P D vwCl (nb_cs xm_sh ad2 cA τ) H → va_S (fun q : Nat => s.heap.size ≤ q) s.heap H locs → lv_has ls 4 [(0, .ref b), (1, .ref (ad1 0)), (2, .ref (ad2 0)), (3, .int (nI i))] → W p l e room_1 s m #[Value.ref b] below meth c H locs 111 1570 (lw_Z below #[Value.ref b] s) (F0 m 924 ls [])) : W p l e room_1 s m #[Value.ref b] below meth c H locs 111 1570 (lw_Z below #[Value.ref b] s) (F0 m 901 ls []) := by
  obtain ⟨hx, hb, hr, hml, hown, hts0, hX, hbl, hlocks, hgv⟩ := C0
  have hts : ∀ w ∈ xT, w.before #[Value.ref b] s = true := fun w h => hts0 w (List.mem_filter.mp h).1
  have hbA : ¬ (fun q : Nat => s.heap.size ≤ q) b := Nat.not_le.mpr hbl
  have hAd1 : ∀ a, a < s.heap.size → (fun q : Nat => s.heap.size ≤ q) a → nb_A xc_sh ad1 a := fun a h1 h2 => absurd h1 (Nat.not_lt.mpr h2)
  have hAd2 : ∀ a, a < s.heap.size → (fun q : Nat => s.heap.size ≤ q) a → nb_A xm_sh ad2 a := fun a h1 h2 => absurd h1 (Nat.not_lt.mpr h2)
  have hin1 : vp_in (nI i + (1 : Int32)) L := by rw [show nI i + (1 : Int32) = nI (i + 1) from nI_add i 1]; exact vp_in_nI (by omega) (by omega)
  have hin2 : vp_in (nI i + (2 : Int32)) L := by rw [show nI i + (2 : Int32) = nI (i + 2) from nI_add i 2]; exact vp_in_nI (by omega) (by omega)
  have hin3 : vp_in (nI i + (3 : Int32)) L := by rw [show nI i + (3 : Int32) = nI (i + 3) from nI_add i 3]; exact vp_in_nI (by omega) (by omega)
  refine lv_aload_n hx hb dL_law_901 rfl (lv_at hl 1 rfl) ?_
  refine lv_aload_n hx hb dL_law_902 rfl (lv_at hl 0 rfl) ?_
  refine lv_iload_n hx hb dL_law_903 rfl (lv_at hl 3 rfl) ?_
  refine lv_iconst (v := (1 : Int32)) hx hb dL_law_904 (by decide) ?_
  refine lv_iadd hx hb dL_law_905 ?_
  refine va_sld hx hb hX hbl hbA hS hin1 dL_law_906 ?_
  refine nl_ci (G := (D, ad1, cA)) hS hA1 (va_runV (As := [.int (xs (nI i + (1 : Int32)).toNatClampNeg)]) (rest := []) ⟨hx, hb, hml, hown, hts⟩ (c_X7_count l (G := (D, ad1, cA)) (tb := tb) hi1 xc_Zok (N := N) h1) (cwV 1 hts (xg_V tw4_109 tw4_110 tw4_111 tw1_1 tw4_112) rfl rfl rfl (by decide +kernel) ⟨Nat.le_of_ble_eq_true rfl, Nat.le_of_ble_eq_true rfl⟩) (nl_preV (G := (D, ad1, cA)) hK hZ1 xc_Zok hP1 hS hAd1 (k := 0) rfl rfl) rfl rfl hl.1 rfl (lv_room (Nat.le_of_ble_eq_true rfl)) dL_law_907 ⟨Nat.le_of_ble_eq_true rfl, Nat.le_of_ble_eq_true rfl⟩) (fun H locs hP1 hk hS => ?_)
  have hP1 : va_P D vwCl (nb_cs xc_sh ad1 cA σ) H := hP1
  have hP2 := nb_keep (sh := xc_sh) (ad := ad1) hP2 hd hk
  refine lv_aload_n hx hb dL_law_910 rfl (lv_at hl 2 rfl) ?_
  refine lv_aload_n hx hb dL_law_911 rfl (lv_at hl 0 rfl) ?_
  refine lv_iload_n hx hb dL_law_912 rfl (lv_at hl 3 rfl) ?_
  refine lv_iconst (v := (1 : Int32)) hx hb dL_law_913 (by decide) ?_
  refine lv_iadd hx hb dL_law_914 ?_
  refine va_sld hx hb hX hbl hbA hS hin1 dL_law_915 ?_
  refine nl_ci (G := (D, ad2, cA)) hS hA2 (va_runV (As := [.int (xs (nI i + (1 : Int32)).toNatClampNeg)]) (rest := [.int r]) ⟨hx, hb, hml, hown, hts⟩ (c_X8_count l (G := (D, ad2, cA)) (Z := fun _ _ => True) hi2 nb_Tok (N := N) h2) (cwV 1 hts (xg_V tw6_37 tw6_38 tw6_39 tw1_10 tw6_40) rfl rfl rfl (by decide +kernel) ⟨Nat.le_of_ble_eq_true rfl, Nat.le_of_ble_eq_true rfl⟩) (nl_preV (G := (D, ad2, cA)) (Z := fun _ _ => True) hK trivial nb_Tok hP2 hS hAd2 (k := 0) rfl rfl) rfl rfl hl.1 rfl (lv_room (Nat.le_of_ble_eq_true rfl)) dL_law_916 ⟨Nat.le_of_ble_eq_true rfl, Nat.le_of_ble_eq_true rfl⟩) (fun H locs hP2 hk hS => ?_)
  have hP2 : va_P D vwCl (nb_cs xm_sh ad2 cA τ) H := hP2
  have hP1 := nb_keep (sh := xm_sh) (ad := ad2) hP1 (fun i j g1 g2 e => hd j i g2 g1 e.symm) hk
  refine lv_icmp_eq (tgt := 924) hx hb dL_law_919 (by decide) (fun c1 => ?_) (fun c1 => absurd rfl c1)
  exact hnext _ _ _ hP1 hP2 hS hl
