set_option maxHeartbeats 8000000 in
set_option maxRecDepth 100000 in
theorem c_X0_isKind (l : Launch) (dC : Nat → ClassId) (dI : Nat → Nat → Nat) (cI cJ cQ : ClassId) (fu : Nat)   (x0 : Int32) (r : Int32) (hd : fX0_isKind fu   x0 = some r) : mRi l yX0_isKind wsX0_isKind (gRm 0 0) [.int x0] (cq_R (dC, dI) vwCl (gty cI cJ cQ) ([] : va_W)) r := by
  refine Met.ofW (cc := cX0_isKind) (maxL := 1) (ret := (some .boolean)) (by decide) rfl ?_
  intro p e s m args below meth c s₁ B hml hv
  obtain ⟨hav, hP, hK⟩ := hv
  have hx := B.exec
  have hb := B.bytes
  have hr := B.returns
  have hts := atoms_spec (ws := wsX0_isKind) B.pre
  have hown : s.vm.findClass RX0 = some m.cls := findClass_of_methodNamed B.named
  have hlocks := B.notSynchronized
  have hcf : CallFix p m c cX0_isKind 1 s args wsX0_isKind RX0 := ⟨hx, hb, hml, hown, hts⟩
  have hg : entryFrame m args 1 = entryFrame m ([.int x0] : List Value).toArray 1 := by rw [hav]
  rw [hg, lg_entry_eq]
  have hl := lv_entry ([.int x0]) (n := 1) (Nat.le_of_ble_eq_true rfl)
  generalize (lg_sl ([.int x0]) ++ List.replicate (1 - (lg_sl ([.int x0])).length) Slot.unset).toArray = ls at hl ⊢
  have hl : lv_has ls 1 [(0, .int x0)] := hl
  clear hg
  unfold fX0_isKind at hd
  refine lv_iload_n hx hb dX0_isKind_0 rfl (lv_at hl 0 rfl) ?_
  refine rx_if_lt hx hb 14 dX0_isKind_1 rfl hd (fun hd => ?_) (fun hd => ?_)
  · refine lv_iconst (v := 0) hx hb dX0_isKind_14 ki_0 ?_
    exact rx_retRz hx hb hr hlocks hd dX0_isKind_15
  refine lv_iload_n hx hb dX0_isKind_4 rfl (lv_at hl 0 rfl) ?_
  refine lv_bipush (v := 6) hx hb dX0_isKind_5 kb_6 ?_
  refine rx_icmp_ge hx hb 14 dX0_isKind_7 rfl hd (fun hd => ?_) (fun hd => ?_)
  · refine lv_iconst (v := 0) hx hb dX0_isKind_14 ki_0 ?_
    exact rx_retRz hx hb hr hlocks hd dX0_isKind_15
  refine lv_iconst (v := 1) hx hb dX0_isKind_10 ki_1 ?_
  refine lv_goto (tgt := 15) hx hb dX0_isKind_11 rfl ?_
  exact rx_retRz hx hb hr hlocks hd dX0_isKind_15
set_option maxHeartbeats 8000000 in
set_option maxRecDepth 100000 in
theorem c_X0_deserved (l : Launch) (dC : Nat → ClassId) (dI : Nat → Nat → Nat) (cI cJ cQ : ClassId) (fu : Nat)   (x0 : Int32) (x1 : Int32) (r : Int32) (hd : fX0_deserved fu   x0 x1 = some r) : mRi l yX0_deserved wsX0_deserved (gRm 1 21) [.int x0, .int x1] (cq_R (dC, dI) vwCl (gty cI cJ cQ) ([] : va_W)) r := by
  refine Met.ofW (cc := cX0_deserved) (maxL := 4) (ret := (some .int)) (by decide) rfl ?_
  intro p e s m args below meth c s₁ B hml hv
  obtain ⟨hav, hP, hK⟩ := hv
  have hx := B.exec
  have hb := B.bytes
  have hr := B.returns
  have hts := atoms_spec (ws := wsX0_deserved) B.pre
  have hown : s.vm.findClass RX0 = some m.cls := findClass_of_methodNamed B.named
  have hlocks := B.notSynchronized
  have hcf : CallFix p m c cX0_deserved 4 s args wsX0_deserved RX0 := ⟨hx, hb, hml, hown, hts⟩
  have hg : entryFrame m args 4 = entryFrame m ([.int x0, .int x1] : List Value).toArray 4 := by rw [hav]
  rw [hg, lg_entry_eq]
  have hl := lv_entry ([.int x0, .int x1]) (n := 4) (Nat.le_of_ble_eq_true rfl)
  generalize (lg_sl ([.int x0, .int x1]) ++ List.replicate (4 - (lg_sl ([.int x0, .int x1])).length) Slot.unset).toArray = ls at hl ⊢
  have hl : lv_has ls 4 [(0, .int x0), (1, .int x1)] := hl
  clear hg
  unfold fX0_deserved at hd
  refine lv_iload_n hx hb dX0_deserved_0 rfl (lv_at hl 1 rfl) ?_
  refine lv_sipush (v := 240) hx hb dX0_deserved_1 ks_240 ?_
  refine lv_iand hx hb dX0_deserved_4 ?_
  refine rx_roi hd (fun v hv => W.runS (As := [.int (x1 &&& (240 : Int32))]) (rest := []) hcf (c_J6_bitCount_0f7a4 l dC dI cI cJ cQ fu    (x1 &&& (240 : Int32)) v hv) (va_cwS 1 hts gX0_deserved_J6_bitCount_0f7a4 rfl rfl rfl cd_J6_bitCount_0f7a4 ⟨(Nat.le_of_ble_eq_true rfl), (Nat.le_of_ble_eq_true rfl)⟩) (cq_R_S hK hP [] rfl) rfl rfl hl.1 rfl (lv_room (Nat.le_of_ble_eq_true rfl)) dX0_deserved_5 ⟨Nat.le_refl _, Nat.le_refl _⟩) (fun u5 hd => ?_)
  refine lv_istore_n (lv' := [(2, .int u5), (0, .int x0), (1, .int x1)]) hx hb dX0_deserved_8 rfl hl (Nat.le_of_ble_eq_true rfl) rfl (fun ls hl => ?_)
  refine lv_iconst (v := 0) hx hb dX0_deserved_9 ki_0 ?_
  refine lv_iconst (v := 4) hx hb dX0_deserved_10 ki_4 ?_
  refine lv_iconst (v := 2) hx hb dX0_deserved_11 ki_2 ?_
  refine lv_iload_n hx hb dX0_deserved_12 rfl (lv_at hl 2 rfl) ?_
  refine lv_bipush (v := 15) hx hb dX0_deserved_13 kb_15 ?_
  refine lv_iand hx hb dX0_deserved_15 ?_
  refine rx_roi hd (fun v hv => W.runS (As := [.int (x1 &&& (15 : Int32))]) (rest := [.int (2 : Int32), .int (4 : Int32), .int (0 : Int32)]) hcf (c_J6_bitCount_0f7a4 l dC dI cI cJ cQ fu    (x1 &&& (15 : Int32)) v hv) (va_cwS 1 hts gX0_deserved_J6_bitCount_0f7a4 rfl rfl rfl cd_J6_bitCount_0f7a4 ⟨(Nat.le_of_ble_eq_true rfl), (Nat.le_of_ble_eq_true rfl)⟩) (cq_R_S hK hP [] rfl) rfl rfl hl.1 rfl (lv_room (Nat.le_of_ble_eq_true rfl)) dX0_deserved_16 ⟨Nat.le_refl _, Nat.le_refl _⟩) (fun u16 hd => ?_)
  refine lv_imul hx hb dX0_deserved_19 ?_
  refine lv_iadd hx hb dX0_deserved_20 ?_
  refine lv_iload_n hx hb dX0_deserved_21 rfl (lv_at hl 0 rfl) ?_
  refine lv_isub hx hb dX0_deserved_22 ?_
  refine va_mmax hx hb (hml.trans hl.1.symm) hown (hts _ (List.mem_of_getElem? (i := 1) rfl)) (hts _ (List.mem_of_getElem? (i := 2) rfl)) (hts _ (List.mem_of_getElem? (i := 3) rfl)) (hts _ (List.mem_of_getElem? (i := 4) rfl)) (Nat.le_of_ble_eq_true rfl) (Nat.le_of_ble_eq_true rfl) (Nat.zero_le _) (Nat.zero_le _) dX0_deserved_23 ?_
  refine rx_topi hd (fun x3_26 hd => ?_)
  refine lv_istore_n (lv' := [(3, .int x3_26), (2, .int u5), (0, .int x0), (1, .int x1)]) hx hb dX0_deserved_26 rfl hl (Nat.le_of_ble_eq_true rfl) rfl (fun ls hl => ?_)
  refine lv_iload_n hx hb dX0_deserved_27 rfl (lv_at hl 2 rfl) ?_
  refine rx_tab hx hb (1 : Int32) (1) rfl 64 dX0_deserved_28 (by decide) (by decide) rfl rfl hd (fun hd => ?_) (fun n_1 hd => ?_)
  · refine lv_iload_n hx hb dX0_deserved_64 rfl (lv_at hl 0 rfl) ?_
    refine lv_iconst (v := 3) hx hb dX0_deserved_65 ki_3 ?_
    refine lv_iadd hx hb dX0_deserved_66 ?_
    exact rx_retRi hx hb hr hlocks hd dX0_deserved_67
  refine rx_tab hx hb (2 : Int32) (2) rfl 68 dX0_deserved_28 (by decide) (by decide) rfl rfl hd (fun hd => ?_) (fun n_2 hd => ?_)
  · refine lv_iload_n hx hb dX0_deserved_68 rfl (lv_at hl 0 rfl) ?_
    refine lv_iconst (v := 2) hx hb dX0_deserved_69 ki_2 ?_
    refine rx_idiv hx hb dX0_deserved_70 hd (fun hd => ?_)
    exact rx_retRi hx hb hr hlocks hd dX0_deserved_71
  refine rx_tab hx hb (3 : Int32) (3) rfl 72 dX0_deserved_28 (by decide) (by decide) rfl rfl hd (fun hd => ?_) (fun n_3 hd => ?_)
  · refine lv_iload_n hx hb dX0_deserved_72 rfl (lv_at hl 1 rfl) ?_
    refine rx_if_ne hx hb 81 dX0_deserved_73 rfl hd (fun hd => ?_) (fun hd => ?_)
    · refine lv_iload_n hx hb dX0_deserved_81 rfl (lv_at hl 0 rfl) ?_
      exact rx_retRi hx hb hr hlocks hd dX0_deserved_82
    refine lv_bipush (v := 12) hx hb dX0_deserved_76 kb_12 ?_
    refine lv_goto (tgt := 82) hx hb dX0_deserved_78 rfl ?_
    exact rx_retRi hx hb hr hlocks hd dX0_deserved_82
  refine rx_tab hx hb (4 : Int32) (4) rfl 83 dX0_deserved_28 (by decide) (by decide) rfl rfl hd (fun hd => ?_) (fun n_4 hd => ?_)
  · refine lv_iconst (v := 0) hx hb dX0_deserved_83 ki_0 ?_
    refine lv_iload_n hx hb dX0_deserved_84 rfl (lv_at hl 0 rfl) ?_
    refine lv_iconst (v := 3) hx hb dX0_deserved_85 ki_3 ?_
    refine lv_iadd hx hb dX0_deserved_86 ?_
    refine lv_iconst (v := 2) hx hb dX0_deserved_87 ki_2 ?_
    refine lv_isub hx hb dX0_deserved_88 ?_
    refine va_mmax hx hb (hml.trans hl.1.symm) hown (hts _ (List.mem_of_getElem? (i := 1) rfl)) (hts _ (List.mem_of_getElem? (i := 2) rfl)) (hts _ (List.mem_of_getElem? (i := 3) rfl)) (hts _ (List.mem_of_getElem? (i := 4) rfl)) (Nat.le_of_ble_eq_true rfl) (Nat.le_of_ble_eq_true rfl) (Nat.zero_le _) (Nat.zero_le _) dX0_deserved_89 ?_
    exact rx_retRi hx hb hr hlocks hd dX0_deserved_92
  refine rx_tab hx hb (5 : Int32) (5) rfl 93 dX0_deserved_28 (by decide) (by decide) rfl rfl hd (fun hd => ?_) (fun n_5 hd => ?_)
  · refine lv_iload_n hx hb dX0_deserved_93 rfl (lv_at hl 3 rfl) ?_
    refine lv_iconst (v := 1) hx hb dX0_deserved_94 ki_1 ?_
    refine lv_iand hx hb dX0_deserved_95 ?_
    refine rx_if_eq hx hb 103 dX0_deserved_96 rfl hd (fun hd => ?_) (fun hd => ?_)
    · refine lv_iload_n hx hb dX0_deserved_103 rfl (lv_at hl 0 rfl) ?_
      refine lv_iconst (v := 2) hx hb dX0_deserved_104 ki_2 ?_
      refine rx_idiv hx hb dX0_deserved_105 hd (fun hd => ?_)
      exact rx_retRi hx hb hr hlocks hd dX0_deserved_106
    refine lv_iconst (v := 0) hx hb dX0_deserved_99 ki_0 ?_
    refine lv_goto (tgt := 106) hx hb dX0_deserved_100 rfl ?_
    exact rx_retRi hx hb hr hlocks hd dX0_deserved_106
  refine lv_tableOut (tgt := 107) hx hb dX0_deserved_28 (by omega) rfl ?_
  refine lv_iload_n hx hb dX0_deserved_107 rfl (lv_at hl 0 rfl) ?_
  exact rx_retRi hx hb hr hlocks hd dX0_deserved_108
set_option maxHeartbeats 8000000 in
set_option maxRecDepth 100000 in
theorem c_X0_isUnder (l : Launch) (dC : Nat → ClassId) (dI : Nat → Nat → Nat) (cI cJ cQ : ClassId) (fu : Nat) (gz : GZ)  (x0 : Int32) (x1 : Int32) (r : Int32) (hd : fX0_isUnder fu   x0 x1 = some r) : mRi l yX0_isUnder wsX0_isUnder (gRm 1 20) [.int x0, .int x1] (cq_RG (dC, dI) vwCl (gty cI cJ cQ) ([] : va_W) gz) r := by
  refine Met.ofW (cc := cX0_isUnder) (maxL := 4) (ret := (some .boolean)) (by decide) rfl ?_
  intro p e s m args below meth c s₁ B hml hv
  obtain ⟨hav, ⟨hP, hK⟩, hG⟩ := hv
  have hS : va_S (fun _ => False) s.heap s.heap [] := va_S.rf
  have hx := B.exec
  have hb := B.bytes
  have hr := B.returns
  have hts := atoms_spec (ws := wsX0_isUnder) B.pre
  have hown : s.vm.findClass RX0 = some m.cls := findClass_of_methodNamed B.named
  have hlocks := B.notSynchronized
  have hcf : CallFix p m c cX0_isUnder 4 s args wsX0_isUnder RX0 := ⟨hx, hb, hml, hown, hts⟩
  have fl_13 := hts (.fieldLink RX0 13 "BucketGift$Kinds" "ABOVE" "[I") (List.mem_of_getElem? (i := 1) rfl)
  have hg : entryFrame m args 4 = entryFrame m ([.int x0, .int x1] : List Value).toArray 4 := by rw [hav]
  rw [hg, lg_entry_eq]
  have hl := lv_entry ([.int x0, .int x1]) (n := 4) (Nat.le_of_ble_eq_true rfl)
  generalize (lg_sl ([.int x0, .int x1]) ++ List.replicate (4 - (lg_sl ([.int x0, .int x1])).length) Slot.unset).toArray = ls at hl ⊢
  have hl : lv_has ls 4 [(0, .int x0), (1, .int x1)] := hl
  clear hg
  unfold fX0_isUnder at hd
  have b4 : ∀ (x1 : Int32) (x2 : Int32) (x3 : Int32), fX0_isUnder_b4 fu    x1 x2 x3 = some r → bk_R p l e (headSpec wsX0_isUnder (gRm 1 20)).room s m args below meth c (qRi below args s r) 4 4 [(1, .int x1), (2, .int x2), (3, .int x3)] [] := by
    intro x1
    have L : ∀ (n : Nat) (x2 : Int32) (x3 : Int32), g_lp (fun _ _ => none) (fX0_isUnder_b4B fu    x1) n x2 x3 = some r → bk_R p l e (headSpec wsX0_isUnder (gRm 1 20)).room s m args below meth c (qRi below args s r) 4 4 [(1, .int x1), (2, .int x2), (3, .int x3)] [] := by
      intro n
      induction n with
      | zero => intro x2 x3 hd; exact absurd hd (by intro h; cases h)
      | succ n k4 =>
        intro x2 x3 hd
        intro ls hl
        have hd : fX0_isUnder_b4B fu    x1 (g_lp (fun _ _ => none) (fX0_isUnder_b4B fu    x1) n) x2 x3 = some r := hd
        unfold fX0_isUnder_b4B at hd
        refine lv_iload_n hx hb dX0_isUnder_4 rfl (lv_at hl 2 rfl) ?_
        refine lv_bipush (v := 6) hx hb dX0_isUnder_5 kb_6 ?_
        refine rx_icmp_ge hx hb 36 dX0_isUnder_7 rfl hd (fun hd => ?_) (fun hd => ?_)
        · refine lv_iconst (v := 0) hx hb dX0_isUnder_36 ki_0 ?_
          exact rx_retRz hx hb hr hlocks hd dX0_isUnder_37
        refine lv_iload_n hx hb dX0_isUnder_10 rfl (lv_at hl 1 rfl) ?_
        refine rx_roi hd (fun v hv => W.runS (As := [.int x2]) (rest := []) hcf (c_X0_isKind l dC dI cI cJ cQ fu    x2 v hv) (va_cwS 1 hts gX0_isUnder_X0_isKind rfl rfl rfl cd_X0_isKind ⟨(Nat.le_of_ble_eq_true rfl), (Nat.le_of_ble_eq_true rfl)⟩) (cq_R_S hK hP [] rfl) rfl rfl hl.1 rfl (lv_room (Nat.le_of_ble_eq_true rfl)) dX0_isUnder_11 ⟨Nat.le_refl _, Nat.le_refl _⟩) (fun u11 hd => ?_)
        refine rx_if_eq hx hb 36 dX0_isUnder_14 rfl hd (fun hd => ?_) (fun hd => ?_)
        · refine lv_iconst (v := 0) hx hb dX0_isUnder_36 ki_0 ?_
          exact rx_retRz hx hb hr hlocks hd dX0_isUnder_37
        refine lv_iload_n hx hb dX0_isUnder_17 rfl (lv_at hl 1 rfl) ?_
        refine lv_iload_n hx hb dX0_isUnder_18 rfl (lv_at hl 0 rfl) ?_
        refine rx_icmp_ne hx hb 24 dX0_isUnder_19 rfl hd (fun hd => ?_) (fun hd => ?_)
        · refine va_gets hx hb hG.2.2.1 hS hown fl_13 (fun _ h => h) dX0_isUnder_24 ?_
          refine lv_iload_n hx hb dX0_isUnder_27 rfl (lv_at hl 1 rfl) ?_
          refine rx_tald (f := gAB) hx hb hG.2.2.2.1 hS hd dX0_isUnder_28 (fun v28 hd => ?_)
          refine lv_istore_n (lv' := [(2, .int v28), (1, .int x1), (3, .int x3)]) hx hb dX0_isUnder_29 rfl hl (Nat.le_of_ble_eq_true rfl) rfl (fun ls hl => ?_)
          refine rx_iinc (lv' := fun z => (3, .int z) :: [(2, .int v28), (1, .int x1)]) hx hb (j := 2) dX0_isUnder_30 hl rfl ki_1 hd (Nat.le_of_ble_eq_true rfl) (fun _ => rfl) (fun x3_30 hd ls hl => ?_)
          refine lv_goto (tgt := 4) hx hb dX0_isUnder_33 rfl ?_
          exact k4 v28 x3_30 hd _ (lv_sub hl [2, 1, 0] rfl)
        refine lv_iconst (v := 1) hx hb dX0_isUnder_22 ki_1 ?_
        exact rx_retRz hx hb hr hlocks hd dX0_isUnder_23
    exact fun x2 x3 => L fu x2 x3
  refine lv_iload_n hx hb dX0_isUnder_0 rfl (lv_at hl 0 rfl) ?_
  refine lv_istore_n (lv' := [(2, .int x0), (0, .int x0), (1, .int x1)]) hx hb dX0_isUnder_1 rfl hl (Nat.le_of_ble_eq_true rfl) rfl (fun ls hl => ?_)
  refine lv_iconst (v := 0) hx hb dX0_isUnder_2 ki_0 ?_
  refine lv_istore_n (lv' := [(3, .int (0 : Int32)), (2, .int x0), (0, .int x0), (1, .int x1)]) hx hb dX0_isUnder_3 rfl hl (Nat.le_of_ble_eq_true rfl) rfl (fun ls hl => ?_)
  exact b4   x1 x0 (0 : Int32) hd _ (lv_sub hl [3, 1, 0] rfl)
set_option maxHeartbeats 8000000 in
set_option maxRecDepth 100000 in
theorem c_X0_nameOf (l : Launch) (dC : Nat → ClassId) (dI : Nat → Nat → Nat) (cI cJ cQ : ClassId) (fu : Nat) (gz : GZ)  (x0 : Int32) (r : Nat) (hd : fX0_nameOf fu   x0 = some r) : mRr l yX0_nameOf wsX0_nameOf (gRm 0 0) [.int x0] (cq_RG (dC, dI) vwCl (gty cI cJ cQ) ([] : va_W) gz) (fun k => .ref (gz.2.2.1 k)) r := by
  refine Met.ofW (cc := cX0_nameOf) (maxL := 1) (ret := (some (.object "java/lang/String"))) (by decide) rfl ?_
  intro p e s m args below meth c s₁ B hml hv
  obtain ⟨hav, ⟨hP, hK⟩, hG⟩ := hv
  have hS : va_S (fun _ => False) s.heap s.heap [] := va_S.rf
  have hx := B.exec
  have hb := B.bytes
  have hr := B.returns
  have hts := atoms_spec (ws := wsX0_nameOf) B.pre
  have hown : s.vm.findClass RX0 = some m.cls := findClass_of_methodNamed B.named
  have hlocks := B.notSynchronized
  have hcf : CallFix p m c cX0_nameOf 1 s args wsX0_nameOf RX0 := ⟨hx, hb, hml, hown, hts⟩
  have hg : entryFrame m args 1 = entryFrame m ([.int x0] : List Value).toArray 1 := by rw [hav]
  rw [hg, lg_entry_eq]
  have hl := lv_entry ([.int x0]) (n := 1) (Nat.le_of_ble_eq_true rfl)
  generalize (lg_sl ([.int x0]) ++ List.replicate (1 - (lg_sl ([.int x0])).length) Slot.unset).toArray = ls at hl ⊢
  have hl : lv_has ls 1 [(0, .int x0)] := hl
  clear hg
  unfold fX0_nameOf at hd
  refine lv_iload_n hx hb dX0_nameOf_0 rfl (lv_at hl 0 rfl) ?_
  refine rx_tab hx hb (1 : Int32) (1) rfl 36 dX0_nameOf_1 (by decide) (by decide) rfl rfl hd (fun hd => ?_) (fun n_1 hd => ?_)
  · refine va_ldcS hx hb hown (hG.2.2.2.2.2.2.1 0 (by decide)) dX0_nameOf_36 ?_
    exact rx_retRr (v := 0) (ad := (fun k => .ref (gz.2.2.1 k))) hx hb hr (Or.inl ⟨_, rfl⟩) hlocks ⟨_, rfl⟩ hd dX0_nameOf_38
  refine rx_tab hx hb (2 : Int32) (2) rfl 39 dX0_nameOf_1 (by decide) (by decide) rfl rfl hd (fun hd => ?_) (fun n_2 hd => ?_)
  · refine va_ldcS hx hb hown (hG.2.2.2.2.2.2.1 1 (by decide)) dX0_nameOf_39 ?_
    exact rx_retRr (v := 1) (ad := (fun k => .ref (gz.2.2.1 k))) hx hb hr (Or.inl ⟨_, rfl⟩) hlocks ⟨_, rfl⟩ hd dX0_nameOf_41
  refine rx_tab hx hb (3 : Int32) (3) rfl 42 dX0_nameOf_1 (by decide) (by decide) rfl rfl hd (fun hd => ?_) (fun n_3 hd => ?_)
  · refine va_ldcS hx hb hown (hG.2.2.2.2.2.2.1 2 (by decide)) dX0_nameOf_42 ?_
    exact rx_retRr (v := 2) (ad := (fun k => .ref (gz.2.2.1 k))) hx hb hr (Or.inl ⟨_, rfl⟩) hlocks ⟨_, rfl⟩ hd dX0_nameOf_44
  refine rx_tab hx hb (4 : Int32) (4) rfl 45 dX0_nameOf_1 (by decide) (by decide) rfl rfl hd (fun hd => ?_) (fun n_4 hd => ?_)
  · refine va_ldcS hx hb hown (hG.2.2.2.2.2.2.1 3 (by decide)) dX0_nameOf_45 ?_
    exact rx_retRr (v := 3) (ad := (fun k => .ref (gz.2.2.1 k))) hx hb hr (Or.inl ⟨_, rfl⟩) hlocks ⟨_, rfl⟩ hd dX0_nameOf_47
  refine rx_tab hx hb (5 : Int32) (5) rfl 48 dX0_nameOf_1 (by decide) (by decide) rfl rfl hd (fun hd => ?_) (fun n_5 hd => ?_)
  · refine va_ldcS hx hb hown (hG.2.2.2.2.2.2.1 4 (by decide)) dX0_nameOf_48 ?_
    exact rx_retRr (v := 4) (ad := (fun k => .ref (gz.2.2.1 k))) hx hb hr (Or.inl ⟨_, rfl⟩) hlocks ⟨_, rfl⟩ hd dX0_nameOf_50
  refine lv_tableOut (tgt := 51) hx hb dX0_nameOf_1 (by omega) rfl ?_
  refine va_ldcS hx hb hown (hG.2.2.2.2.2.2.1 5 (by decide)) dX0_nameOf_51 ?_
  exact rx_retRr (v := 5) (ad := (fun k => .ref (gz.2.2.1 k))) hx hb hr (Or.inl ⟨_, rfl⟩) hlocks ⟨_, rfl⟩ hd dX0_nameOf_53
