set_option maxHeartbeats 8000000 in
set_option maxRecDepth 100000 in
theorem c_J6_bitCount_0f7a4 (l : Launch) (dC : Nat → ClassId) (dI : Nat → Nat → Nat) (cI cJ cQ : ClassId) (fu : Nat)   (x0 : Int32) (r : Int32) (hd : fJ6_bitCount_0f7a4 fu   x0 = some r) : mRi l yJ6_bitCount_0f7a4 wsJ6_bitCount_0f7a4 (gRm 0 0) [.int x0] (cq_R (dC, dI) vwCl (gty cI cJ cQ) ([] : va_W)) r := by
  refine Met.ofW (cc := cJ6_bitCount_0f7a4) (maxL := 1) (ret := (some .int)) (by decide) rfl ?_
  intro p e s m args below meth c s₁ B hml hv
  obtain ⟨hav, hP, hK⟩ := hv
  have hx := B.exec
  have hb := B.bytes
  have hr := B.returns
  have hts := atoms_spec (ws := wsJ6_bitCount_0f7a4) B.pre
  have hown : s.vm.findClass RJ6 = some m.cls := findClass_of_methodNamed B.named
  have hlocks := B.notSynchronized
  have hcf : CallFix p m c cJ6_bitCount_0f7a4 1 s args wsJ6_bitCount_0f7a4 RJ6 := ⟨hx, hb, hml, hown, hts⟩
  have kc_265 := hts (.constant RJ6 265 (1431655765)) (List.mem_of_getElem? (i := 1) rfl)
  have kc_266 := hts (.constant RJ6 266 (858993459)) (List.mem_of_getElem? (i := 2) rfl)
  have kc_267 := hts (.constant RJ6 267 (252645135)) (List.mem_of_getElem? (i := 3) rfl)
  have hg : entryFrame m args 1 = entryFrame m ([.int x0] : List Value).toArray 1 := by rw [hav]
  rw [hg, lg_entry_eq]
  have hl := lv_entry ([.int x0]) (n := 1) (Nat.le_of_ble_eq_true rfl)
  generalize (lg_sl ([.int x0]) ++ List.replicate (1 - (lg_sl ([.int x0])).length) Slot.unset).toArray = ls at hl ⊢
  have hl : lv_has ls 1 [(0, .int x0)] := hl
  clear hg
  unfold fJ6_bitCount_0f7a4 at hd
  refine lv_iload_n hx hb dJ6_bitCount_0f7a4_0 rfl (lv_at hl 0 rfl) ?_
  refine lv_iload_n hx hb dJ6_bitCount_0f7a4_1 rfl (lv_at hl 0 rfl) ?_
  refine lv_iconst (v := 1) hx hb dJ6_bitCount_0f7a4_2 ki_1 ?_
  refine lv_iushr hx hb dJ6_bitCount_0f7a4_3 rfl ?_
  refine lv_ldcw hx hb hown kc_265 dJ6_bitCount_0f7a4_4 ?_
  refine lv_iand hx hb dJ6_bitCount_0f7a4_7 ?_
  refine lv_isub hx hb dJ6_bitCount_0f7a4_8 ?_
  refine rx_topi hd (fun x0_9 hd => ?_)
  refine lv_istore_n (lv' := [(0, .int x0_9)]) hx hb dJ6_bitCount_0f7a4_9 rfl hl (Nat.le_of_ble_eq_true rfl) rfl (fun ls hl => ?_)
  refine lv_iload_n hx hb dJ6_bitCount_0f7a4_10 rfl (lv_at hl 0 rfl) ?_
  refine lv_ldcw hx hb hown kc_266 dJ6_bitCount_0f7a4_11 ?_
  refine lv_iand hx hb dJ6_bitCount_0f7a4_14 ?_
  refine lv_iload_n hx hb dJ6_bitCount_0f7a4_15 rfl (lv_at hl 0 rfl) ?_
  refine lv_iconst (v := 2) hx hb dJ6_bitCount_0f7a4_16 ki_2 ?_
  refine lv_iushr hx hb dJ6_bitCount_0f7a4_17 rfl ?_
  refine lv_ldcw hx hb hown kc_266 dJ6_bitCount_0f7a4_18 ?_
  refine lv_iand hx hb dJ6_bitCount_0f7a4_21 ?_
  refine lv_iadd hx hb dJ6_bitCount_0f7a4_22 ?_
  refine rx_topi hd (fun x0_23 hd => ?_)
  refine lv_istore_n (lv' := [(0, .int x0_23)]) hx hb dJ6_bitCount_0f7a4_23 rfl hl (Nat.le_of_ble_eq_true rfl) rfl (fun ls hl => ?_)
  refine lv_iload_n hx hb dJ6_bitCount_0f7a4_24 rfl (lv_at hl 0 rfl) ?_
  refine lv_iload_n hx hb dJ6_bitCount_0f7a4_25 rfl (lv_at hl 0 rfl) ?_
  refine lv_iconst (v := 4) hx hb dJ6_bitCount_0f7a4_26 ki_4 ?_
  refine lv_iushr hx hb dJ6_bitCount_0f7a4_27 rfl ?_
  refine lv_iadd hx hb dJ6_bitCount_0f7a4_28 ?_
  refine lv_ldcw hx hb hown kc_267 dJ6_bitCount_0f7a4_29 ?_
  refine lv_iand hx hb dJ6_bitCount_0f7a4_32 ?_
  refine rx_topi hd (fun x0_33 hd => ?_)
  refine lv_istore_n (lv' := [(0, .int x0_33)]) hx hb dJ6_bitCount_0f7a4_33 rfl hl (Nat.le_of_ble_eq_true rfl) rfl (fun ls hl => ?_)
  refine lv_iload_n hx hb dJ6_bitCount_0f7a4_34 rfl (lv_at hl 0 rfl) ?_
  refine lv_iload_n hx hb dJ6_bitCount_0f7a4_35 rfl (lv_at hl 0 rfl) ?_
  refine lv_bipush (v := 8) hx hb dJ6_bitCount_0f7a4_36 kb_8 ?_
  refine lv_iushr hx hb dJ6_bitCount_0f7a4_38 rfl ?_
  refine lv_iadd hx hb dJ6_bitCount_0f7a4_39 ?_
  refine rx_topi hd (fun x0_40 hd => ?_)
  refine lv_istore_n (lv' := [(0, .int x0_40)]) hx hb dJ6_bitCount_0f7a4_40 rfl hl (Nat.le_of_ble_eq_true rfl) rfl (fun ls hl => ?_)
  refine lv_iload_n hx hb dJ6_bitCount_0f7a4_41 rfl (lv_at hl 0 rfl) ?_
  refine lv_iload_n hx hb dJ6_bitCount_0f7a4_42 rfl (lv_at hl 0 rfl) ?_
  refine lv_bipush (v := 16) hx hb dJ6_bitCount_0f7a4_43 kb_16 ?_
  refine lv_iushr hx hb dJ6_bitCount_0f7a4_45 rfl ?_
  refine lv_iadd hx hb dJ6_bitCount_0f7a4_46 ?_
  refine rx_topi hd (fun x0_47 hd => ?_)
  refine lv_istore_n (lv' := [(0, .int x0_47)]) hx hb dJ6_bitCount_0f7a4_47 rfl hl (Nat.le_of_ble_eq_true rfl) rfl (fun ls hl => ?_)
  refine lv_iload_n hx hb dJ6_bitCount_0f7a4_48 rfl (lv_at hl 0 rfl) ?_
  refine lv_bipush (v := 63) hx hb dJ6_bitCount_0f7a4_49 kb_63 ?_
  refine lv_iand hx hb dJ6_bitCount_0f7a4_51 ?_
  exact rx_retRi hx hb hr hlocks hd dJ6_bitCount_0f7a4_52
set_option maxHeartbeats 8000000 in
set_option maxRecDepth 100000 in
theorem c_J0_coder_7d493 (l : Launch) (dC : Nat → ClassId) (dI : Nat → Nat → Nat) (cI cJ cQ : ClassId) (fu : Nat) (gz : GZ) (w : Nat)   (r : Int32) (hd : fJ0_coder_7d493 fu w   = some r) : mRi l yJ0_coder_7d493 wsJ0_coder_7d493 (gRm 0 0) [.ref (gz.2.2.1 w)] (cq_RG (dC, dI) vwCl (gty cI cJ cQ) ([] : va_W) gz) r := by
  refine Met.ofW (cc := cJ0_coder_7d493) (maxL := 1) (ret := (some .byte)) (by decide) rfl ?_
  intro p e s m args below meth c s₁ B hml hv
  obtain ⟨hav, ⟨hP, hK⟩, hG⟩ := hv
  have hS : va_S (fun _ => False) s.heap s.heap [] := va_S.rf
  have hx := B.exec
  have hb := B.bytes
  have hr := B.returns
  have hts := atoms_spec (ws := wsJ0_coder_7d493) B.pre
  have hown : s.vm.findClass RJ0 = some m.cls := findClass_of_methodNamed B.named
  have hlocks := B.notSynchronized
  have hcf : CallFix p m c cJ0_coder_7d493 1 s args wsJ0_coder_7d493 RJ0 := ⟨hx, hb, hml, hown, hts⟩
  have fl_38 := hts (.fieldLink RJ0 38 "java/lang/String" "COMPACT_STRINGS" "Z") (List.mem_of_getElem? (i := 1) rfl)
  have fl_15 := hts (.fieldLink RJ0 15 "java/lang/String" "coder" "B") (List.mem_of_getElem? (i := 2) rfl)
  have hg : entryFrame m args 1 = entryFrame m ([.ref (gz.2.2.1 w)] : List Value).toArray 1 := by rw [hav]
  rw [hg, lg_entry_eq]
  have hl := lv_entry ([.ref (gz.2.2.1 w)]) (n := 1) (Nat.le_of_ble_eq_true rfl)
  generalize (lg_sl ([.ref (gz.2.2.1 w)]) ++ List.replicate (1 - (lg_sl ([.ref (gz.2.2.1 w)])).length) Slot.unset).toArray = ls at hl ⊢
  have hl : lv_has ls 1 [(0, .ref (gz.2.2.1 w))] := hl
  clear hg
  unfold fJ0_coder_7d493 at hd
  refine g_wc hd (fun hw hd => ?_)
  refine va_gets hx hb hG.2.2.2.2.1 hS hown fl_38 (fun _ h => h) dJ0_coder_7d493_0 ?_
  refine rx_if_eq hx hb 13 dJ0_coder_7d493_3 rfl hd (fun hd => ?_) (fun hd => ?_)
  · refine lv_iconst (v := 1) hx hb dJ0_coder_7d493_13 ki_1 ?_
    exact rx_retRb hx hb hr hlocks hd dJ0_coder_7d493_14
  refine lv_aload_n hx hb dJ0_coder_7d493_6 rfl (lv_at hl 0 rfl) ?_
  refine vk_getf hx hb (hG.2.2.2.2.2.1.1 w hw).2.1 hS hown fl_15 (fun _ h => h) dJ0_coder_7d493_7 ?_
  refine lv_goto (tgt := 14) hx hb dJ0_coder_7d493_10 rfl ?_
  exact rx_retRb hx hb hr hlocks hd dJ0_coder_7d493_14
set_option maxHeartbeats 8000000 in
set_option maxRecDepth 100000 in
theorem c_J0_length_8abf5 (l : Launch) (dC : Nat → ClassId) (dI : Nat → Nat → Nat) (cI cJ cQ : ClassId) (fu : Nat) (gz : GZ) (w : Nat)   (r : Int32) (hd : fJ0_length_8abf5 fu w   = some r) : mRi l yJ0_length_8abf5 wsJ0_length_8abf5 (gRm 1 20) [.ref (gz.2.2.1 w)] (cq_RG (dC, dI) vwCl (gty cI cJ cQ) ([] : va_W) gz) r := by
  refine Met.ofW (cc := cJ0_length_8abf5) (maxL := 1) (ret := (some .int)) (by decide) rfl ?_
  intro p e s m args below meth c s₁ B hml hv
  obtain ⟨hav, ⟨hP, hK⟩, hG⟩ := hv
  have hS : va_S (fun _ => False) s.heap s.heap [] := va_S.rf
  have hx := B.exec
  have hb := B.bytes
  have hr := B.returns
  have hts := atoms_spec (ws := wsJ0_length_8abf5) B.pre
  have hown : s.vm.findClass RJ0 = some m.cls := findClass_of_methodNamed B.named
  have hlocks := B.notSynchronized
  have hcf : CallFix p m c cJ0_length_8abf5 1 s args wsJ0_length_8abf5 RJ0 := ⟨hx, hb, hml, hown, hts⟩
  have fl_9 := hts (.fieldLink RJ0 9 "java/lang/String" "value" "[B") (List.mem_of_getElem? (i := 1) rfl)
  have hg : entryFrame m args 1 = entryFrame m ([.ref (gz.2.2.1 w)] : List Value).toArray 1 := by rw [hav]
  rw [hg, lg_entry_eq]
  have hl := lv_entry ([.ref (gz.2.2.1 w)]) (n := 1) (Nat.le_of_ble_eq_true rfl)
  generalize (lg_sl ([.ref (gz.2.2.1 w)]) ++ List.replicate (1 - (lg_sl ([.ref (gz.2.2.1 w)])).length) Slot.unset).toArray = ls at hl ⊢
  have hl : lv_has ls 1 [(0, .ref (gz.2.2.1 w))] := hl
  clear hg
  unfold fJ0_length_8abf5 at hd
  refine g_wc hd (fun hw hd => ?_)
  refine lv_aload_n hx hb dJ0_length_8abf5_0 rfl (lv_at hl 0 rfl) ?_
  refine vk_getf hx hb (hG.2.2.2.2.2.1.1 w hw).2.2.1 hS hown fl_9 (fun _ h => h) dJ0_length_8abf5_1 ?_
  refine va_tlen (v := (Int32.ofNat (gLen.getD w 0))) hx hb (hG.2.2.2.2.2.1.1 w hw).2.2.2 hS rfl dJ0_length_8abf5_4 ?_
  refine lv_aload_n hx hb dJ0_length_8abf5_5 rfl (lv_at hl 0 rfl) ?_
  refine rx_roi hd (fun v hv => W.runV (As := []) (rest := [.int (Int32.ofNat (gLen.getD w 0))]) hcf (c_J0_coder_7d493 l dC dI cI cJ cQ fu gz  w   v hv) (cwV 0 hts gJ0_length_8abf5_J0_coder_7d493 rfl rfl rfl cd_J0_coder_7d493 ⟨(Nat.le_of_ble_eq_true rfl), (Nat.le_of_ble_eq_true rfl)⟩) (cq_RG_T hw hG hS hK hP) rfl rfl hl.1 rfl (lv_room (Nat.le_of_ble_eq_true rfl)) dJ0_length_8abf5_6 ⟨Nat.le_refl _, Nat.le_refl _⟩) (fun u6 hd => ?_)
  refine lv_ishr hx hb dJ0_length_8abf5_9 ?_
  exact rx_retRi hx hb hr hlocks hd dJ0_length_8abf5_10
set_option maxHeartbeats 8000000 in
set_option maxRecDepth 100000 in
theorem c_J0_isLatin1_aae02 (l : Launch) (dC : Nat → ClassId) (dI : Nat → Nat → Nat) (cI cJ cQ : ClassId) (fu : Nat) (gz : GZ) (w : Nat)   (r : Int32) (hd : fJ0_isLatin1_aae02 fu w   = some r) : mRi l yJ0_isLatin1_aae02 wsJ0_isLatin1_aae02 (gRm 0 0) [.ref (gz.2.2.1 w)] (cq_RG (dC, dI) vwCl (gty cI cJ cQ) ([] : va_W) gz) r := by
  refine Met.ofW (cc := cJ0_isLatin1_aae02) (maxL := 1) (ret := (some .boolean)) (by decide) rfl ?_
  intro p e s m args below meth c s₁ B hml hv
  obtain ⟨hav, ⟨hP, hK⟩, hG⟩ := hv
  have hS : va_S (fun _ => False) s.heap s.heap [] := va_S.rf
  have hx := B.exec
  have hb := B.bytes
  have hr := B.returns
  have hts := atoms_spec (ws := wsJ0_isLatin1_aae02) B.pre
  have hown : s.vm.findClass RJ0 = some m.cls := findClass_of_methodNamed B.named
  have hlocks := B.notSynchronized
  have hcf : CallFix p m c cJ0_isLatin1_aae02 1 s args wsJ0_isLatin1_aae02 RJ0 := ⟨hx, hb, hml, hown, hts⟩
  have fl_38 := hts (.fieldLink RJ0 38 "java/lang/String" "COMPACT_STRINGS" "Z") (List.mem_of_getElem? (i := 1) rfl)
  have fl_15 := hts (.fieldLink RJ0 15 "java/lang/String" "coder" "B") (List.mem_of_getElem? (i := 2) rfl)
  have hg : entryFrame m args 1 = entryFrame m ([.ref (gz.2.2.1 w)] : List Value).toArray 1 := by rw [hav]
  rw [hg, lg_entry_eq]
  have hl := lv_entry ([.ref (gz.2.2.1 w)]) (n := 1) (Nat.le_of_ble_eq_true rfl)
  generalize (lg_sl ([.ref (gz.2.2.1 w)]) ++ List.replicate (1 - (lg_sl ([.ref (gz.2.2.1 w)])).length) Slot.unset).toArray = ls at hl ⊢
  have hl : lv_has ls 1 [(0, .ref (gz.2.2.1 w))] := hl
  clear hg
  unfold fJ0_isLatin1_aae02 at hd
  refine g_wc hd (fun hw hd => ?_)
  refine va_gets hx hb hG.2.2.2.2.1 hS hown fl_38 (fun _ h => h) dJ0_isLatin1_aae02_0 ?_
  refine rx_if_eq hx hb 17 dJ0_isLatin1_aae02_3 rfl hd (fun hd => ?_) (fun hd => ?_)
  · refine lv_iconst (v := 0) hx hb dJ0_isLatin1_aae02_17 ki_0 ?_
    exact rx_retRz hx hb hr hlocks hd dJ0_isLatin1_aae02_18
  refine lv_aload_n hx hb dJ0_isLatin1_aae02_6 rfl (lv_at hl 0 rfl) ?_
  refine vk_getf hx hb (hG.2.2.2.2.2.1.1 w hw).2.1 hS hown fl_15 (fun _ h => h) dJ0_isLatin1_aae02_7 ?_
  refine rx_if_ne hx hb 17 dJ0_isLatin1_aae02_10 rfl hd (fun hd => ?_) (fun hd => ?_)
  · refine lv_iconst (v := 0) hx hb dJ0_isLatin1_aae02_17 ki_0 ?_
    exact rx_retRz hx hb hr hlocks hd dJ0_isLatin1_aae02_18
  refine lv_iconst (v := 1) hx hb dJ0_isLatin1_aae02_13 ki_1 ?_
  refine lv_goto (tgt := 18) hx hb dJ0_isLatin1_aae02_14 rfl ?_
  exact rx_retRz hx hb hr hlocks hd dJ0_isLatin1_aae02_18
set_option maxHeartbeats 8000000 in
set_option maxRecDepth 100000 in
theorem c_J1_charAt_3b067 (l : Launch) (dC : Nat → ClassId) (dI : Nat → Nat → Nat) (cI cJ cQ : ClassId) (fu : Nat) (gz : GZ) (w : Nat)  (x1 : Int32) (r : Int32) (hd : fJ1_charAt_3b067 fu w  x1 = some r) : mRi l yJ1_charAt_3b067 wsJ1_charAt_3b067 (gRm 2 43) [.ref (gz.2.2.2 w), .int x1] (cq_RG (dC, dI) vwCl (gty cI cJ cQ) ([] : va_W) gz) r := by
  refine Met.ofW (cc := cJ1_charAt_3b067) (maxL := 2) (ret := (some .char)) (by decide) rfl ?_
  intro p e s m args below meth c s₁ B hml hv
  obtain ⟨hav, ⟨hP, hK⟩, hG⟩ := hv
  have hS : va_S (fun _ => False) s.heap s.heap [] := va_S.rf
  have hx := B.exec
  have hb := B.bytes
  have hr := B.returns
  have hts := atoms_spec (ws := wsJ1_charAt_3b067) B.pre
  have hown : s.vm.findClass RJ1 = some m.cls := findClass_of_methodNamed B.named
  have hlocks := B.notSynchronized
  have hcf : CallFix p m c cJ1_charAt_3b067 2 s args wsJ1_charAt_3b067 RJ1 := ⟨hx, hb, hml, hown, hts⟩
  have hg : entryFrame m args 2 = entryFrame m ([.ref (gz.2.2.2 w), .int x1] : List Value).toArray 2 := by rw [hav]
  rw [hg, lg_entry_eq]
  have hl := lv_entry ([.ref (gz.2.2.2 w), .int x1]) (n := 2) (Nat.le_of_ble_eq_true rfl)
  generalize (lg_sl ([.ref (gz.2.2.2 w), .int x1]) ++ List.replicate (2 - (lg_sl ([.ref (gz.2.2.2 w), .int x1])).length) Slot.unset).toArray = ls at hl ⊢
  have hl : lv_has ls 2 [(0, .ref (gz.2.2.2 w)), (1, .int x1)] := hl
  clear hg
  unfold fJ1_charAt_3b067 at hd
  refine g_wc hd (fun hw hd => ?_)
  refine lv_iload_n hx hb dJ1_charAt_3b067_0 rfl (lv_at hl 1 rfl) ?_
  refine lv_aload_n hx hb dJ1_charAt_3b067_1 rfl (lv_at hl 0 rfl) ?_
  refine va_tlen (v := (Int32.ofNat (gLen.getD w 0))) hx hb (hG.2.2.2.2.2.1.1 w hw).2.2.2 hS rfl dJ1_charAt_3b067_2 ?_
  refine rx_rov hd (fun v hv => W.runS (As := [.int x1, .int (Int32.ofNat (gLen.getD w 0))]) (rest := []) hcf (c_J0_checkIndex_df160 l dC dI cI cJ cQ fu gz    x1 (Int32.ofNat (gLen.getD w 0)) v hv) (va_cwS 2 hts gJ1_charAt_3b067_J0_checkIndex_df160 rfl rfl rfl cd_J0_checkIndex_df160 ⟨(Nat.le_of_ble_eq_true rfl), (Nat.le_of_ble_eq_true rfl)⟩) (cq_RG_S hG hS hK hP [] rfl) rfl rfl hl.1 rfl (lv_room (Nat.le_of_ble_eq_true rfl)) dJ1_charAt_3b067_3 ⟨Nat.le_refl _, Nat.le_refl _⟩) (fun u3 hd => ?_)
  refine lv_aload_n hx hb dJ1_charAt_3b067_6 rfl (lv_at hl 0 rfl) ?_
  refine lv_iload_n hx hb dJ1_charAt_3b067_7 rfl (lv_at hl 1 rfl) ?_
  refine rx_bald (f := (fun j => (gByt.getD w []).getD j 0)) hx hb (hG.2.2.2.2.2.1.1 w hw).2.2.2 hS hd dJ1_charAt_3b067_8 (fun v8 hd => ?_)
  refine lv_sipush (v := 255) hx hb dJ1_charAt_3b067_9 ks_255 ?_
  refine lv_iand hx hb dJ1_charAt_3b067_12 ?_
  refine lv_i2c hx hb dJ1_charAt_3b067_13 rfl ?_
  exact rx_retRc hx hb hr hlocks hd dJ1_charAt_3b067_14
set_option maxHeartbeats 8000000 in
set_option maxRecDepth 100000 in
theorem c_J0_charAt_5068e (l : Launch) (dC : Nat → ClassId) (dI : Nat → Nat → Nat) (cI cJ cQ : ClassId) (fu : Nat) (gz : GZ) (w : Nat)  (x1 : Int32) (r : Int32) (hd : fJ0_charAt_5068e fu w  x1 = some r) : mRi l yJ0_charAt_5068e wsJ0_charAt_5068e (gRm 4 85) [.ref (gz.2.2.1 w), .int x1] (cq_RG (dC, dI) vwCl (gty cI cJ cQ) ([] : va_W) gz) r := by
  refine Met.ofW (cc := cJ0_charAt_5068e) (maxL := 2) (ret := (some .char)) (by decide) rfl ?_
  intro p e s m args below meth c s₁ B hml hv
  obtain ⟨hav, ⟨hP, hK⟩, hG⟩ := hv
  have hS : va_S (fun _ => False) s.heap s.heap [] := va_S.rf
  have hx := B.exec
  have hb := B.bytes
  have hr := B.returns
  have hts := atoms_spec (ws := wsJ0_charAt_5068e) B.pre
  have hown : s.vm.findClass RJ0 = some m.cls := findClass_of_methodNamed B.named
  have hlocks := B.notSynchronized
  have hcf : CallFix p m c cJ0_charAt_5068e 2 s args wsJ0_charAt_5068e RJ0 := ⟨hx, hb, hml, hown, hts⟩
  have fl_9 := hts (.fieldLink RJ0 9 "java/lang/String" "value" "[B") (List.mem_of_getElem? (i := 1) rfl)
  have hg : entryFrame m args 2 = entryFrame m ([.ref (gz.2.2.1 w), .int x1] : List Value).toArray 2 := by rw [hav]
  rw [hg, lg_entry_eq]
  have hl := lv_entry ([.ref (gz.2.2.1 w), .int x1]) (n := 2) (Nat.le_of_ble_eq_true rfl)
  generalize (lg_sl ([.ref (gz.2.2.1 w), .int x1]) ++ List.replicate (2 - (lg_sl ([.ref (gz.2.2.1 w), .int x1])).length) Slot.unset).toArray = ls at hl ⊢
  have hl : lv_has ls 2 [(0, .ref (gz.2.2.1 w)), (1, .int x1)] := hl
  clear hg
  unfold fJ0_charAt_5068e at hd
  refine g_wc hd (fun hw hd => ?_)
  refine lv_aload_n hx hb dJ0_charAt_5068e_0 rfl (lv_at hl 0 rfl) ?_
  refine rx_roi hd (fun v hv => W.runV (As := []) (rest := []) hcf (c_J0_isLatin1_aae02 l dC dI cI cJ cQ fu gz  w   v hv) (cwV 0 hts gJ0_charAt_5068e_J0_isLatin1_aae02 rfl rfl rfl cd_J0_isLatin1_aae02 ⟨(Nat.le_of_ble_eq_true rfl), (Nat.le_of_ble_eq_true rfl)⟩) (cq_RG_T hw hG hS hK hP) rfl rfl hl.1 rfl (lv_room (Nat.le_of_ble_eq_true rfl)) dJ0_charAt_5068e_1 ⟨Nat.le_refl _, Nat.le_refl _⟩) (fun u1 hd => ?_)
  refine rx_if_eq hx hb 16 dJ0_charAt_5068e_4 rfl hd (fun hd => ?_) (fun hd => ?_)
  · refine lv_aload_n hx hb dJ0_charAt_5068e_16 rfl (lv_at hl 0 rfl) ?_
    refine vk_getf hx hb (hG.2.2.2.2.2.1.1 w hw).2.2.1 hS hown fl_9 (fun _ h => h) dJ0_charAt_5068e_17 ?_
    refine lv_iload_n hx hb dJ0_charAt_5068e_20 rfl (lv_at hl 1 rfl) ?_
    exact absurd hd (by intro h; cases h)
  refine lv_aload_n hx hb dJ0_charAt_5068e_7 rfl (lv_at hl 0 rfl) ?_
  refine vk_getf hx hb (hG.2.2.2.2.2.1.1 w hw).2.2.1 hS hown fl_9 (fun _ h => h) dJ0_charAt_5068e_8 ?_
  refine lv_iload_n hx hb dJ0_charAt_5068e_11 rfl (lv_at hl 1 rfl) ?_
  refine rx_roi hd (fun v hv => W.runS (As := [.ref (gz.2.2.2 w), .int x1]) (rest := []) hcf (c_J1_charAt_3b067 l dC dI cI cJ cQ fu gz  w  x1 v hv) (va_cwS 2 hts gJ0_charAt_5068e_J1_charAt_3b067 rfl rfl rfl cd_J1_charAt_3b067 ⟨(Nat.le_of_ble_eq_true rfl), (Nat.le_of_ble_eq_true rfl)⟩) (cq_RG_S hG hS hK hP [] rfl) rfl rfl hl.1 rfl (lv_room (Nat.le_of_ble_eq_true rfl)) dJ0_charAt_5068e_12 ⟨Nat.le_refl _, Nat.le_refl _⟩) (fun u12 hd => ?_)
  exact rx_retRc hx hb hr hlocks hd dJ0_charAt_5068e_15
set_option maxHeartbeats 8000000 in
set_option maxRecDepth 100000 in
theorem c_J7_fill_d0a16 (l : Launch) (dC : Nat → ClassId) (dI : Nat → Nat → Nat) (cI cJ cQ : ClassId) (fu : Nat) (a_j n_j : Nat) (sz : Nat) (s_j : (Nat → Int64)) (x1 : Int64) (r : (Nat → Int64)) (hd : fJ7_fill_d0a16 fu n_j s_j x1 = some r) : mUv l yJ7_fill_d0a16 wsJ7_fill_d0a16 (gRm 0 0) [.ref a_j, .long x1] (dC, dI) vwCl (gty cI cJ cQ) (wJ cJ a_j n_j s_j) sz (fun u : (Nat → Int64) => (wJ cJ a_j n_j u)) r := by
  refine Met.ofW (cc := cJ7_fill_d0a16) (maxL := 5) (ret := none) (by decide) rfl ?_
  intro p e s m args below meth c s₁ B hml hv
  obtain ⟨hav, hsz, hP, hK, hD0⟩ := hv
  subst hsz
  have hD := hD0.self (sz := s.heap.size)
  generalize hAe : va_A (wJ cJ a_j n_j s_j) s.heap.size = A at hD ⊢
  have hA : ∀ q : Nat, s.heap.size ≤ q → A q := fun q h => by rw [← hAe]; exact Or.inr h
  have hS : va_S A s.heap s.heap [] := va_S.rf
  have hx := B.exec
  have hb := B.bytes
  have hr := B.returns
  have hts := atoms_spec (ws := wsJ7_fill_d0a16) B.pre
  have hown : s.vm.findClass RJ7 = some m.cls := findClass_of_methodNamed B.named
  have hlocks := B.notSynchronized
  have hcf : CallFix p m c cJ7_fill_d0a16 5 s args wsJ7_fill_d0a16 RJ7 := ⟨hx, hb, hml, hown, hts⟩
  have hg : entryFrame m args 5 = entryFrame m ([.ref a_j, .long x1] : List Value).toArray 5 := by rw [hav]
  rw [hg, lg_entry_eq]
  have hl := lv_entry ([.ref a_j, .long x1]) (n := 5) (Nat.le_of_ble_eq_true rfl)
  generalize (lg_sl ([.ref a_j, .long x1]) ++ List.replicate (5 - (lg_sl ([.ref a_j, .long x1])).length) Slot.unset).toArray = ls at hl ⊢
  have hl : lv_has ls 5 [(0, .ref a_j), (1, .long x1)] := hl
  clear hg
  unfold fJ7_fill_d0a16 at hd
  have b6 : ∀ (x1 : Int64) (x4 : Int32) (s_j : (Nat → Int64)) (x3 : Int32), fJ7_fill_d0a16_b6 fu n_j   x1 x4 s_j x3 = some r → bk_U p l e (headSpec wsJ7_fill_d0a16 (gRm 0 0)).room s m args below meth c (qUv below args s (dC, dI) vwCl (gty cI cJ cQ) A (fun u : (Nat → Int64) => (wJ cJ a_j n_j u)) r) (dC, dI) vwCl A 5 (wJ cJ a_j n_j s_j) 6 [(0, .ref a_j), (1, .long x1), (3, .int x3), (4, .int x4)] [] := by
    intro x1 x4
    have L : ∀ (n : Nat) (s_j : (Nat → Int64)) (x3 : Int32), g_lp (fun _ _ => none) (fJ7_fill_d0a16_b6B fu n_j   x1 x4) n s_j x3 = some r → bk_U p l e (headSpec wsJ7_fill_d0a16 (gRm 0 0)).room s m args below meth c (qUv below args s (dC, dI) vwCl (gty cI cJ cQ) A (fun u : (Nat → Int64) => (wJ cJ a_j n_j u)) r) (dC, dI) vwCl A 5 (wJ cJ a_j n_j s_j) 6 [(0, .ref a_j), (1, .long x1), (3, .int x3), (4, .int x4)] [] := by
      intro n
      induction n with
      | zero => intro s_j x3 hd; exact absurd hd (by intro h; cases h)
      | succ n k6 =>
        intro s_j x3 hd
        intro H locs ls hP hD hS hl
        have hd : fJ7_fill_d0a16_b6B fu n_j   x1 x4 (g_lp (fun _ _ => none) (fJ7_fill_d0a16_b6B fu n_j   x1 x4) n) s_j x3 = some r := hd
        unfold fJ7_fill_d0a16_b6B at hd
        refine lv_iload_n hx hb dJ7_fill_d0a16_6 rfl (lv_at hl 2 rfl) ?_
        refine lv_iload hx hb dJ7_fill_d0a16_7 (lv_at hl 3 rfl) ?_
        refine rx_icmp_ge hx hb 22 dJ7_fill_d0a16_9 rfl hd (fun hd => ?_) (fun hd => ?_)
        · exact rx_retUv (u := s_j) (w1 := (fun u : (Nat → Int64) => (wJ cJ a_j n_j u))) hx hb hr hlocks hd hK hP hD hS dJ7_fill_d0a16_22
        refine lv_aload_n hx hb dJ7_fill_d0a16_12 rfl (lv_at hl 0 rfl) ?_
        refine lv_iload_n hx hb dJ7_fill_d0a16_13 rfl (lv_at hl 2 rfl) ?_
        refine lv_lload_n hx hb dJ7_fill_d0a16_14 rfl (lv_at hl 1 rfl) ?_
        refine rx_last (wJ cJ a_j n_j (vp_updL s_j (Int32.toNatClampNeg x3) x1)) hx hb hK hP hD hS 0 1 rfl rfl hd rfl dJ7_fill_d0a16_15 (fun hd H locs hP hD hS => ?_)
        refine rx_iinc (lv' := fun z => (3, .int z) :: [(0, .ref a_j), (1, .long x1), (4, .int x4)]) hx hb (j := 2) dJ7_fill_d0a16_16 hl rfl ki_1 hd (Nat.le_of_ble_eq_true rfl) (fun _ => rfl) (fun x3_16 hd ls hl => ?_)
        refine lv_goto (tgt := 6) hx hb dJ7_fill_d0a16_19 rfl ?_
        exact k6 (vp_updL s_j (Int32.toNatClampNeg x3) x1) x3_16 hd _ _ _ hP hD hS (lv_sub hl [1, 2, 0, 3] rfl)
    exact fun s_j x3 => L fu s_j x3
  refine lv_iconst (v := 0) hx hb dJ7_fill_d0a16_0 ki_0 ?_
  refine lv_istore_n (lv' := [(3, .int (0 : Int32)), (0, .ref a_j), (1, .long x1)]) hx hb dJ7_fill_d0a16_1 rfl hl (Nat.le_of_ble_eq_true rfl) rfl (fun ls hl => ?_)
  refine lv_aload_n hx hb dJ7_fill_d0a16_2 rfl (lv_at hl 1 rfl) ?_
  refine va_alen (v := (Int32.ofNat n_j)) hx hb hK hP 0 1 rfl rfl rfl dJ7_fill_d0a16_3 ?_
  refine rx_topi hd (fun x4_4 hd => ?_)
  refine lv_istore (lv' := [(4, .int x4_4), (3, .int (0 : Int32)), (0, .ref a_j), (1, .long x1)]) hx hb dJ7_fill_d0a16_4 hl (Nat.le_of_ble_eq_true rfl) rfl (fun ls hl => ?_)
  exact b6   x1 x4_4 s_j (0 : Int32) hd _ _ _ hP hD hS (lv_sub hl [2, 3, 1, 0] rfl)
