set_option maxHeartbeats 8000000 in
set_option maxRecDepth 100000 in
theorem c_X6_isWithin (l : Launch) (dC : Nat → ClassId) (dI : Nat → Nat → Nat) (cI cJ cQ : ClassId) (fu : Nat)   (x0 : Int32) (x1 : Int32) (x2 : Int32) (r : Int32) (hd : fX6_isWithin fu   x0 x1 x2 = some r) : mRi l yX6_isWithin wsX6_isWithin (gRm 0 0) [.int x0, .int x1, .int x2] (cq_R (dC, dI) vwCl (gty cI cJ cQ) ([] : va_W)) r := by
  refine Met.ofW (cc := cX6_isWithin) (maxL := 3) (ret := (some .boolean)) (by decide) rfl ?_
  intro p e s m args below meth c s₁ B hml hv
  obtain ⟨hav, hP, hK⟩ := hv
  have hx := B.exec
  have hb := B.bytes
  have hr := B.returns
  have hts := atoms_spec (ws := wsX6_isWithin) B.pre
  have hown : s.vm.findClass RX6 = some m.cls := findClass_of_methodNamed B.named
  have hlocks := B.notSynchronized
  have hcf : CallFix p m c cX6_isWithin 3 s args wsX6_isWithin RX6 := ⟨hx, hb, hml, hown, hts⟩
  have hg : entryFrame m args 3 = entryFrame m ([.int x0, .int x1, .int x2] : List Value).toArray 3 := by rw [hav]
  rw [hg, lg_entry_eq]
  have hl := lv_entry ([.int x0, .int x1, .int x2]) (n := 3) (Nat.le_of_ble_eq_true rfl)
  generalize (lg_sl ([.int x0, .int x1, .int x2]) ++ List.replicate (3 - (lg_sl ([.int x0, .int x1, .int x2])).length) Slot.unset).toArray = ls at hl ⊢
  have hl : lv_has ls 3 [(0, .int x0), (1, .int x1), (2, .int x2)] := hl
  clear hg
  unfold fX6_isWithin at hd
  refine lv_iload_n hx hb dX6_isWithin_0 rfl (lv_at hl 0 rfl) ?_
  refine lv_iload_n hx hb dX6_isWithin_1 rfl (lv_at hl 1 rfl) ?_
  refine rx_icmp_lt hx hb 14 dX6_isWithin_2 rfl hd (fun hd => ?_) (fun hd => ?_)
  · refine lv_iconst (v := 0) hx hb dX6_isWithin_14 ki_0 ?_
    exact rx_retRz hx hb hr hlocks hd dX6_isWithin_15
  refine lv_iload_n hx hb dX6_isWithin_5 rfl (lv_at hl 0 rfl) ?_
  refine lv_iload_n hx hb dX6_isWithin_6 rfl (lv_at hl 2 rfl) ?_
  refine rx_icmp_gt hx hb 14 dX6_isWithin_7 rfl hd (fun hd => ?_) (fun hd => ?_)
  · refine lv_iconst (v := 0) hx hb dX6_isWithin_14 ki_0 ?_
    exact rx_retRz hx hb hr hlocks hd dX6_isWithin_15
  refine lv_iconst (v := 1) hx hb dX6_isWithin_10 ki_1 ?_
  refine lv_goto (tgt := 15) hx hb dX6_isWithin_11 rfl ?_
  exact rx_retRz hx hb hr hlocks hd dX6_isWithin_15
set_option maxHeartbeats 8000000 in
set_option maxRecDepth 100000 in
theorem c_X6_isFarm (l : Launch) (dC : Nat → ClassId) (dI : Nat → Nat → Nat) (cI cJ cQ : ClassId) (fu : Nat)   (x0 : Int32) (r : Int32) (hd : fX6_isFarm fu   x0 = some r) : mRi l yX6_isFarm wsX6_isFarm (gRm 1 22) [.int x0] (cq_R (dC, dI) vwCl (gty cI cJ cQ) ([] : va_W)) r := by
  refine Met.ofW (cc := cX6_isFarm) (maxL := 1) (ret := (some .boolean)) (by decide) rfl ?_
  intro p e s m args below meth c s₁ B hml hv
  obtain ⟨hav, hP, hK⟩ := hv
  have hx := B.exec
  have hb := B.bytes
  have hr := B.returns
  have hts := atoms_spec (ws := wsX6_isFarm) B.pre
  have hown : s.vm.findClass RX6 = some m.cls := findClass_of_methodNamed B.named
  have hlocks := B.notSynchronized
  have hcf : CallFix p m c cX6_isFarm 1 s args wsX6_isFarm RX6 := ⟨hx, hb, hml, hown, hts⟩
  have hg : entryFrame m args 1 = entryFrame m ([.int x0] : List Value).toArray 1 := by rw [hav]
  rw [hg, lg_entry_eq]
  have hl := lv_entry ([.int x0]) (n := 1) (Nat.le_of_ble_eq_true rfl)
  generalize (lg_sl ([.int x0]) ++ List.replicate (1 - (lg_sl ([.int x0])).length) Slot.unset).toArray = ls at hl ⊢
  have hl : lv_has ls 1 [(0, .int x0)] := hl
  clear hg
  unfold fX6_isFarm at hd
  refine lv_iload_n hx hb dX6_isFarm_0 rfl (lv_at hl 0 rfl) ?_
  refine lv_iconst (v := 0) hx hb dX6_isFarm_1 ki_0 ?_
  refine lv_iconst (v := 3) hx hb dX6_isFarm_2 ki_3 ?_
  refine rx_roi hd (fun v hv => W.runS (As := [.int x0, .int (0 : Int32), .int (3 : Int32)]) (rest := []) hcf (c_X6_isWithin l dC dI cI cJ cQ fu    x0 (0 : Int32) (3 : Int32) v hv) (va_cwS 3 hts gX6_isFarm_X6_isWithin rfl rfl rfl cd_X6_isWithin ⟨(Nat.le_of_ble_eq_true rfl), (Nat.le_of_ble_eq_true rfl)⟩) (cq_R_S hK hP [] rfl) rfl rfl hl.1 rfl (lv_room (Nat.le_of_ble_eq_true rfl)) dX6_isFarm_3 ⟨Nat.le_refl _, Nat.le_refl _⟩) (fun u3 hd => ?_)
  exact rx_retRz hx hb hr hlocks hd dX6_isFarm_6
theorem fiX6_finding_X6 : ∀ w ∈ wsX60, w ∈ wsX6_finding := mem_r _ [3, 4, 5, 6, 7, 8, 9, 10] rfl
set_option maxHeartbeats 8000000 in
set_option maxRecDepth 100000 in
theorem c_X6_finding (l : Launch) (dC : Nat → ClassId) (dI : Nat → Nat → Nat) (cI cJ cQ : ClassId) (fu : Nat) (a_g a_h a_q a_k a_p a_x a_s : Nat → Nat) (sz : Nat) (s_g : Int32) (s_o : (Nat → Int32)) (x1 : Int32) (r : Int32 × (Nat → Int32)) (hd : fX6_finding fu  s_g s_o x1 = some r) : mUi l yX6_finding wsX6_finding (gRm 0 0) [.ref (a_g 0), .int x1] (dC, dI) vwCl (gty cI cJ cQ) (wGO a_g a_h a_q a_k a_p a_x a_s s_g ++ (wGT cI a_g s_o)) sz (fun u : (Nat → Int32) => (wGO a_g a_h a_q a_k a_p a_x a_s s_g ++ (wGT cI a_g u))) r := by
  refine Met.ofW (cc := cX6_finding) (maxL := 2) (ret := (some .int)) (by decide) rfl ?_
  intro p e s m args below meth c s₁ B hml hv
  obtain ⟨hav, hsz, hP, hK, hD0⟩ := hv
  subst hsz
  have hD := hD0.self (sz := s.heap.size)
  generalize hAe : va_A (wGO a_g a_h a_q a_k a_p a_x a_s s_g ++ (wGT cI a_g s_o)) s.heap.size = A at hD ⊢
  have hA : ∀ q : Nat, s.heap.size ≤ q → A q := fun q h => by rw [← hAe]; exact Or.inr h
  have hS : va_S A s.heap s.heap [] := va_S.rf
  have hx := B.exec
  have hb := B.bytes
  have hr := B.returns
  have hts := atoms_spec (ws := wsX6_finding) B.pre
  have hown : s.vm.findClass RX6 = some m.cls := findClass_of_methodNamed B.named
  have hlocks := B.notSynchronized
  have hcf : CallFix p m c cX6_finding 2 s args wsX6_finding RX6 := ⟨hx, hb, hml, hown, hts⟩
  have fl_9 := hts (.fieldLink RX6 9 "BucketGift" "told" "[I") (List.mem_of_getElem? (i := 1) rfl)
  have kc_246 := hts (.constant RX6 246 (-1000000001)) (List.mem_of_getElem? (i := 2) rfl)
  have hg : entryFrame m args 2 = entryFrame m ([.ref (a_g 0), .int x1] : List Value).toArray 2 := by rw [hav]
  rw [hg, lg_entry_eq]
  have hl := lv_entry ([.ref (a_g 0), .int x1]) (n := 2) (Nat.le_of_ble_eq_true rfl)
  generalize (lg_sl ([.ref (a_g 0), .int x1]) ++ List.replicate (2 - (lg_sl ([.ref (a_g 0), .int x1])).length) Slot.unset).toArray = ls at hl ⊢
  have hl : lv_has ls 2 [(0, .ref (a_g 0)), (1, .int x1)] := hl
  clear hg
  unfold fX6_finding at hd
  refine lv_aload_n hx hb dX6_finding_0 rfl (lv_at hl 0 rfl) ?_
  refine rx_get hx hb hts fiX6_finding_X6 hown hK hP 0 rfl rfl 0 (Nat.le_of_ble_eq_true rfl) fl_9 rfl rfl dX6_finding_1 ?_
  refine lv_iload_n hx hb dX6_finding_4 rfl (lv_at hl 1 rfl) ?_
  refine lv_dup2_11 hx hb dX6_finding_5 rfl rfl ?_
  refine rx_iald hx hb hK hP 1 0 rfl rfl hd dX6_finding_6 (fun v6 hd => ?_)
  refine lv_iconst (v := 1) hx hb dX6_finding_7 ki_1 ?_
  refine lv_iadd hx hb dX6_finding_8 ?_
  refine rx_iast (wGO a_g a_h a_q a_k a_p a_x a_s s_g ++ (wGT cI a_g (upd s_o (Int32.toNatClampNeg x1) (v6 + (1 : Int32))))) hx hb hK hP hD hS 1 0 rfl rfl hd (g_setR (j := 0) rfl rfl) dX6_finding_9 (fun hd H locs hP hD hS => ?_)
  refine lv_ldc hx hb hown kc_246 dX6_finding_10 ?_
  refine lv_iload_n hx hb dX6_finding_12 rfl (lv_at hl 1 rfl) ?_
  refine lv_isub hx hb dX6_finding_13 ?_
  exact rx_retUi (u := (upd s_o (Int32.toNatClampNeg x1) (v6 + (1 : Int32)))) (w1 := (fun u : (Nat → Int32) => (wGO a_g a_h a_q a_k a_p a_x a_s s_g ++ (wGT cI a_g u)))) hx hb hr hlocks hd hK hP hD hS dX6_finding_14
theorem fiX6_farm_X6 : ∀ w ∈ wsX60, w ∈ wsX6_farm := mem_r _ [32, 33, 34, 35, 36, 37, 38, 39] rfl
set_option maxHeartbeats 8000000 in
set_option maxRecDepth 100000 in
theorem c_X6_farm (l : Launch) (dC : Nat → ClassId) (dI : Nat → Nat → Nat) (cI cJ cQ : ClassId) (fu : Nat) (a_g a_h a_q a_k a_p a_x a_s : Nat → Nat) (sz : Nat) (s_g : Int32) (s_o : (Nat → Int32)) (s_h : PS) (x1 : Int32) (x2 : Int32) (x3 : Int32) (r : Int32 × (Nat → Int32) × PS) (hd : fX6_farm fu  s_g s_o s_h x1 x2 x3 = some r) : mUi l yX6_farm wsX6_farm (gRm 2 42) [.ref (a_g 0), .int x1, .int x2, .int x3] (dC, dI) vwCl (gty cI cJ cQ) (wGO a_g a_h a_q a_k a_p a_x a_s s_g ++ (wGT cI a_g s_o ++ (wP cI cJ a_h s_h))) sz (fun u : (Nat → Int32) × PS => (wGO a_g a_h a_q a_k a_p a_x a_s s_g ++ (wGT cI a_g u.1 ++ (wP cI cJ a_h u.2)))) r := by
  refine Met.ofW (cc := cX6_farm) (maxL := 6) (ret := (some .int)) (by decide) rfl ?_
  intro p e s m args below meth c s₁ B hml hv
  obtain ⟨hav, hsz, hP, hK, hD0⟩ := hv
  subst hsz
  have hD := hD0.self (sz := s.heap.size)
  generalize hAe : va_A (wGO a_g a_h a_q a_k a_p a_x a_s s_g ++ (wGT cI a_g s_o ++ (wP cI cJ a_h s_h))) s.heap.size = A at hD ⊢
  have hA : ∀ q : Nat, s.heap.size ≤ q → A q := fun q h => by rw [← hAe]; exact Or.inr h
  have hS : va_S A s.heap s.heap [] := va_S.rf
  have hx := B.exec
  have hb := B.bytes
  have hr := B.returns
  have hts := atoms_spec (ws := wsX6_farm) B.pre
  have hown : s.vm.findClass RX6 = some m.cls := findClass_of_methodNamed B.named
  have hlocks := B.notSynchronized
  have hcf : CallFix p m c cX6_farm 6 s args wsX6_farm RX6 := ⟨hx, hb, hml, hown, hts⟩
  have fl_16 := hts (.fieldLink RX6 16 "BucketGift" "here" "LBucketGift$Parish;") (List.mem_of_getElem? (i := 1) rfl)
  have hg : entryFrame m args 6 = entryFrame m ([.ref (a_g 0), .int x1, .int x2, .int x3] : List Value).toArray 6 := by rw [hav]
  rw [hg, lg_entry_eq]
  have hl := lv_entry ([.ref (a_g 0), .int x1, .int x2, .int x3]) (n := 6) (Nat.le_of_ble_eq_true rfl)
  generalize (lg_sl ([.ref (a_g 0), .int x1, .int x2, .int x3]) ++ List.replicate (6 - (lg_sl ([.ref (a_g 0), .int x1, .int x2, .int x3])).length) Slot.unset).toArray = ls at hl ⊢
  have hl : lv_has ls 6 [(0, .ref (a_g 0)), (1, .int x1), (2, .int x2), (3, .int x3)] := hl
  clear hg
  unfold fX6_farm at hd
  have b16 : ∀ (s_o : (Nat → Int32)) (s_h : PS), fX6_farm_b16 fu s_g   s_o s_h = some r → bk_U p l e (headSpec wsX6_farm (gRm 2 42)).room s m args below meth c (qUi below args s (dC, dI) vwCl (gty cI cJ cQ) A (fun u : (Nat → Int32) × PS => (wGO a_g a_h a_q a_k a_p a_x a_s s_g ++ (wGT cI a_g u.1 ++ (wP cI cJ a_h u.2)))) r) (dC, dI) vwCl A 6 (wGO a_g a_h a_q a_k a_p a_x a_s s_g ++ (wGT cI a_g s_o ++ (wP cI cJ a_h s_h))) 16 [(0, .ref (a_g 0))] [] := by
    intro s_o s_h hd
    intro H locs ls hP hD hS hl
    unfold fX6_farm_b16 at hd
    refine lv_aload_n hx hb dX6_farm_16 rfl (lv_at hl 0 rfl) ?_
    refine lv_iconst (v := 0) hx hb dX6_farm_17 ki_0 ?_
    refine rx_upi (fun u => (wGO a_g a_h a_q a_k a_p a_x a_s s_g ++ (wGT cI a_g u ++ (wP cI cJ a_h s_h)))) hd hP hD hS hA ⟨[0, 1], [2, 3, 4, 5, 6, 7, 8, 9, 10, 11], [10, 11, 0, 1, 2, 3, 4, 5, 6, 7, 8, 9], wP cI cJ a_h s_h, rfl, rfl, rfl, by decide, rfl, fun _ => rfl⟩ (fun v hv => va_runV (As := [.int (0 : Int32)]) (rest := []) hcf (c_X6_finding l dC dI cI cJ cQ fu a_g a_h a_q a_k a_p a_x a_s _  s_g s_o (0 : Int32) v hv) (cwV 1 hts gX6_farm_X6_finding rfl rfl rfl cd_X6_finding ⟨(Nat.le_of_ble_eq_true rfl), (Nat.le_of_ble_eq_true rfl)⟩) (cq_U_V (q0 := 0) (ci := 5) hK hP hD [0, 1] rfl rfl rfl rfl) rfl rfl hl.1 rfl (lv_room (Nat.le_of_ble_eq_true rfl)) dX6_farm_18 ⟨Nat.le_refl _, Nat.le_refl _⟩) (fun u18 hd H locs hP hD hS => ?_)
    exact rx_retUi (u := (u18.2, s_h)) (w1 := (fun u : (Nat → Int32) × PS => (wGO a_g a_h a_q a_k a_p a_x a_s s_g ++ (wGT cI a_g u.1 ++ (wP cI cJ a_h u.2))))) hx hb hr hlocks hd hK hP hD hS dX6_farm_21
  refine lv_iload_n hx hb dX6_farm_0 rfl (lv_at hl 1 rfl) ?_
  refine rx_roi hd (fun v hv => W.runS (As := [.int x1]) (rest := []) hcf (c_X6_isFarm l dC dI cI cJ cQ fu    x1 v hv) (va_cwS 1 hts gX6_farm_X6_isFarm rfl rfl rfl cd_X6_isFarm ⟨(Nat.le_of_ble_eq_true rfl), (Nat.le_of_ble_eq_true rfl)⟩) (cq_R_S hK hP [] rfl) rfl rfl hl.1 rfl (lv_room (Nat.le_of_ble_eq_true rfl)) dX6_farm_1 ⟨Nat.le_refl _, Nat.le_refl _⟩) (fun u1 hd => ?_)
  refine rx_if_eq hx hb 16 dX6_farm_4 rfl hd (fun hd => ?_) (fun hd => ?_)
  · exact b16   s_o s_h hd _ _ _ hP hD hS (lv_sub hl [0] rfl)
  refine lv_iload_n hx hb dX6_farm_7 rfl (lv_at hl 2 rfl) ?_
  refine lv_iconst (v := 0) hx hb dX6_farm_8 ki_0 ?_
  refine lv_iconst (v := 3) hx hb dX6_farm_9 ki_3 ?_
  refine rx_roi hd (fun v hv => W.runS (As := [.int x2, .int (0 : Int32), .int (3 : Int32)]) (rest := []) hcf (c_X6_isWithin l dC dI cI cJ cQ fu    x2 (0 : Int32) (3 : Int32) v hv) (va_cwS 3 hts gX6_farm_X6_isWithin rfl rfl rfl cd_X6_isWithin ⟨(Nat.le_of_ble_eq_true rfl), (Nat.le_of_ble_eq_true rfl)⟩) (cq_R_S hK hP [] rfl) rfl rfl hl.1 rfl (lv_room (Nat.le_of_ble_eq_true rfl)) dX6_farm_10 ⟨Nat.le_refl _, Nat.le_refl _⟩) (fun u10 hd => ?_)
  refine rx_if_ne hx hb 22 dX6_farm_13 rfl hd (fun hd => ?_) (fun hd => ?_)
  · refine lv_iload_n hx hb dX6_farm_22 rfl (lv_at hl 3 rfl) ?_
    refine lv_iload_n hx hb dX6_farm_23 rfl (lv_at hl 2 rfl) ?_
    refine rx_roi hd (fun v hv => W.runS (As := [.int x2]) (rest := [.int x3]) hcf (c_X1_leastOfFarm l dC dI cI cJ cQ fu    x2 v hv) (va_cwS 1 hts gX6_farm_X1_leastOfFarm rfl rfl rfl cd_X1_leastOfFarm ⟨(Nat.le_of_ble_eq_true rfl), (Nat.le_of_ble_eq_true rfl)⟩) (cq_R_S hK hP [] rfl) rfl rfl hl.1 rfl (lv_room (Nat.le_of_ble_eq_true rfl)) dX6_farm_24 ⟨Nat.le_refl _, Nat.le_refl _⟩) (fun u24 hd => ?_)
    refine lv_aload_n hx hb dX6_farm_27 rfl (lv_at hl 0 rfl) ?_
    refine rx_get hx hb hts fiX6_farm_X6 hown hK hP 0 rfl rfl 1 (Nat.le_of_ble_eq_true rfl) fl_16 rfl rfl dX6_farm_28 ?_
    refine lv_iload_n hx hb dX6_farm_31 rfl (lv_at hl 2 rfl) ?_
    refine rx_roi hd (fun v hv => W.runV (As := [.int x2]) (rest := [.int u24, .int x3]) hcf (c_X1_mostOfFarm l dC dI cI cJ cQ fu a_h  s_h x2 v hv) (cwV 1 hts gX6_farm_X1_mostOfFarm rfl rfl rfl cd_X1_mostOfFarm ⟨(Nat.le_of_ble_eq_true rfl), (Nat.le_of_ble_eq_true rfl)⟩) (cq_R_V (q0 := 2) (ci := 0) hK hP [2, 3, 4, 5, 6, 7, 8, 9, 10, 11] rfl rfl rfl) rfl rfl hl.1 rfl (lv_room (Nat.le_of_ble_eq_true rfl)) dX6_farm_32 ⟨Nat.le_refl _, Nat.le_refl _⟩) (fun u32 hd => ?_)
    refine rx_roi hd (fun v hv => W.runS (As := [.int x3, .int u24, .int u32]) (rest := []) hcf (c_X6_isWithin l dC dI cI cJ cQ fu    x3 u24 u32 v hv) (va_cwS 3 hts gX6_farm_X6_isWithin rfl rfl rfl cd_X6_isWithin ⟨(Nat.le_of_ble_eq_true rfl), (Nat.le_of_ble_eq_true rfl)⟩) (cq_R_S hK hP [] rfl) rfl rfl hl.1 rfl (lv_room (Nat.le_of_ble_eq_true rfl)) dX6_farm_35 ⟨Nat.le_refl _, Nat.le_refl _⟩) (fun u35 hd => ?_)
    refine rx_if_ne hx hb 47 dX6_farm_38 rfl hd (fun hd => ?_) (fun hd => ?_)
    · refine lv_aload_n hx hb dX6_farm_47 rfl (lv_at hl 0 rfl) ?_
      refine rx_get hx hb hts fiX6_farm_X6 hown hK hP 0 rfl rfl 1 (Nat.le_of_ble_eq_true rfl) fl_16 rfl rfl dX6_farm_48 ?_
      refine lv_iload_n hx hb dX6_farm_51 rfl (lv_at hl 2 rfl) ?_
      refine rx_ror hd (fun v hv => W.runV (As := [.int x2]) (rest := []) hcf (c_X1_rowOfFarms l dC dI cI cJ cQ fu a_h  s_h x2 v hv) (cwV 1 hts gX6_farm_X1_rowOfFarms rfl rfl rfl cd_X1_rowOfFarms ⟨(Nat.le_of_ble_eq_true rfl), (Nat.le_of_ble_eq_true rfl)⟩) (cq_R_V (q0 := 2) (ci := 0) hK hP [2, 3, 4, 5, 6, 7, 8, 9, 10, 11] rfl rfl rfl) rfl rfl hl.1 rfl (lv_room (Nat.le_of_ble_eq_true rfl)) dX6_farm_52 ⟨Nat.le_refl _, Nat.le_refl _⟩) (fun u52 hd => ?_)
      refine g_sel (n := 1) hd (fun e hd1 => ?_) (fun hd1 => ?_)
      · clear hd
        subst e
        have hd := hd1
        clear hd1
        refine lv_astore (lv' := [(4, .ref (a_h 1)), (0, .ref (a_g 0)), (1, .int x1), (2, .int x2), (3, .int x3)]) hx hb dX6_farm_55 hl (Nat.le_of_ble_eq_true rfl) rfl (fun ls hl => ?_)
        refine lv_aload hx hb dX6_farm_57 (lv_at hl 0 rfl) ?_
        refine lv_iload_n hx hb dX6_farm_59 rfl (lv_at hl 2 rfl) ?_
        refine rx_iald hx hb hK hP 3 0 rfl rfl hd dX6_farm_60 (fun v60 hd => ?_)
        refine lv_istore (lv' := [(5, .int v60), (4, .ref (a_h 1)), (0, .ref (a_g 0)), (1, .int x1), (2, .int x2), (3, .int x3)]) hx hb dX6_farm_61 hl (Nat.le_of_ble_eq_true rfl) rfl (fun ls hl => ?_)
        refine lv_aload hx hb dX6_farm_63 (lv_at hl 1 rfl) ?_
        refine lv_iload_n hx hb dX6_farm_65 rfl (lv_at hl 3 rfl) ?_
        refine lv_iload_n hx hb dX6_farm_66 rfl (lv_at hl 5 rfl) ?_
        refine rx_iast (wGO a_g a_h a_q a_k a_p a_x a_s s_g ++ (wGT cI a_g s_o ++ (wP cI cJ a_h (puNeed s_h (Int32.toNatClampNeg x1) x3)))) hx hb hK hP hD hS 3 0 rfl rfl hd (g_setR (j := 2) rfl (g_setR (j := 1) rfl (wP_uNeed ..))) dX6_farm_67 (fun hd H locs hP hD hS => ?_)
        refine lv_iload hx hb dX6_farm_68 (lv_at hl 0 rfl) ?_
        exact rx_retUi (u := (s_o, (puNeed s_h (Int32.toNatClampNeg x1) x3))) (w1 := (fun u : (Nat → Int32) × PS => (wGO a_g a_h a_q a_k a_p a_x a_s s_g ++ (wGT cI a_g u.1 ++ (wP cI cJ a_h u.2))))) hx hb hr hlocks hd hK hP hD hS dX6_farm_70
      clear hd
      have hd := hd1
      clear hd1
      refine g_sel (n := 2) hd (fun e hd1 => ?_) (fun hd1 => ?_)
      · clear hd
        subst e
        have hd := hd1
        clear hd1
        refine lv_astore (lv' := [(4, .ref (a_h 2)), (0, .ref (a_g 0)), (1, .int x1), (2, .int x2), (3, .int x3)]) hx hb dX6_farm_55 hl (Nat.le_of_ble_eq_true rfl) rfl (fun ls hl => ?_)
        refine lv_aload hx hb dX6_farm_57 (lv_at hl 0 rfl) ?_
        refine lv_iload_n hx hb dX6_farm_59 rfl (lv_at hl 2 rfl) ?_
        refine rx_iald hx hb hK hP 4 0 rfl rfl hd dX6_farm_60 (fun v60 hd => ?_)
        refine lv_istore (lv' := [(5, .int v60), (4, .ref (a_h 2)), (0, .ref (a_g 0)), (1, .int x1), (2, .int x2), (3, .int x3)]) hx hb dX6_farm_61 hl (Nat.le_of_ble_eq_true rfl) rfl (fun ls hl => ?_)
        refine lv_aload hx hb dX6_farm_63 (lv_at hl 1 rfl) ?_
        refine lv_iload_n hx hb dX6_farm_65 rfl (lv_at hl 3 rfl) ?_
        refine lv_iload_n hx hb dX6_farm_66 rfl (lv_at hl 5 rfl) ?_
        refine rx_iast (wGO a_g a_h a_q a_k a_p a_x a_s s_g ++ (wGT cI a_g s_o ++ (wP cI cJ a_h (puStore s_h (Int32.toNatClampNeg x1) x3)))) hx hb hK hP hD hS 4 0 rfl rfl hd (g_setR (j := 3) rfl (g_setR (j := 2) rfl (wP_uStore ..))) dX6_farm_67 (fun hd H locs hP hD hS => ?_)
        refine lv_iload hx hb dX6_farm_68 (lv_at hl 0 rfl) ?_
        exact rx_retUi (u := (s_o, (puStore s_h (Int32.toNatClampNeg x1) x3))) (w1 := (fun u : (Nat → Int32) × PS => (wGO a_g a_h a_q a_k a_p a_x a_s s_g ++ (wGT cI a_g u.1 ++ (wP cI cJ a_h u.2))))) hx hb hr hlocks hd hK hP hD hS dX6_farm_70
      clear hd
      have hd := hd1
      clear hd1
      refine g_sel (n := 3) hd (fun e hd1 => ?_) (fun hd1 => ?_)
      · clear hd
        subst e
        have hd := hd1
        clear hd1
        refine lv_astore (lv' := [(4, .ref (a_h 3)), (0, .ref (a_g 0)), (1, .int x1), (2, .int x2), (3, .int x3)]) hx hb dX6_farm_55 hl (Nat.le_of_ble_eq_true rfl) rfl (fun ls hl => ?_)
        refine lv_aload hx hb dX6_farm_57 (lv_at hl 0 rfl) ?_
        refine lv_iload_n hx hb dX6_farm_59 rfl (lv_at hl 2 rfl) ?_
        refine rx_iald hx hb hK hP 5 0 rfl rfl hd dX6_farm_60 (fun v60 hd => ?_)
        refine lv_istore (lv' := [(5, .int v60), (4, .ref (a_h 3)), (0, .ref (a_g 0)), (1, .int x1), (2, .int x2), (3, .int x3)]) hx hb dX6_farm_61 hl (Nat.le_of_ble_eq_true rfl) rfl (fun ls hl => ?_)
        refine lv_aload hx hb dX6_farm_63 (lv_at hl 1 rfl) ?_
        refine lv_iload_n hx hb dX6_farm_65 rfl (lv_at hl 3 rfl) ?_
        refine lv_iload_n hx hb dX6_farm_66 rfl (lv_at hl 5 rfl) ?_
        refine rx_iast (wGO a_g a_h a_q a_k a_p a_x a_s s_g ++ (wGT cI a_g s_o ++ (wP cI cJ a_h (puThirst s_h (Int32.toNatClampNeg x1) x3)))) hx hb hK hP hD hS 5 0 rfl rfl hd (g_setR (j := 4) rfl (g_setR (j := 3) rfl (wP_uThirst ..))) dX6_farm_67 (fun hd H locs hP hD hS => ?_)
        refine lv_iload hx hb dX6_farm_68 (lv_at hl 0 rfl) ?_
        exact rx_retUi (u := (s_o, (puThirst s_h (Int32.toNatClampNeg x1) x3))) (w1 := (fun u : (Nat → Int32) × PS => (wGO a_g a_h a_q a_k a_p a_x a_s s_g ++ (wGT cI a_g u.1 ++ (wP cI cJ a_h u.2))))) hx hb hr hlocks hd hK hP hD hS dX6_farm_70
      clear hd
      have hd := hd1
      clear hd1
      refine g_sel (n := 4) hd (fun e hd1 => ?_) (fun hd1 => ?_)
      · clear hd
        subst e
        have hd := hd1
        clear hd1
        refine lv_astore (lv' := [(4, .ref (a_h 4)), (0, .ref (a_g 0)), (1, .int x1), (2, .int x2), (3, .int x3)]) hx hb dX6_farm_55 hl (Nat.le_of_ble_eq_true rfl) rfl (fun ls hl => ?_)
        refine lv_aload hx hb dX6_farm_57 (lv_at hl 0 rfl) ?_
        refine lv_iload_n hx hb dX6_farm_59 rfl (lv_at hl 2 rfl) ?_
        refine rx_iald hx hb hK hP 6 0 rfl rfl hd dX6_farm_60 (fun v60 hd => ?_)
        refine lv_istore (lv' := [(5, .int v60), (4, .ref (a_h 4)), (0, .ref (a_g 0)), (1, .int x1), (2, .int x2), (3, .int x3)]) hx hb dX6_farm_61 hl (Nat.le_of_ble_eq_true rfl) rfl (fun ls hl => ?_)
        refine lv_aload hx hb dX6_farm_63 (lv_at hl 1 rfl) ?_
        refine lv_iload_n hx hb dX6_farm_65 rfl (lv_at hl 3 rfl) ?_
        refine lv_iload_n hx hb dX6_farm_66 rfl (lv_at hl 5 rfl) ?_
        refine rx_iast (wGO a_g a_h a_q a_k a_p a_x a_s s_g ++ (wGT cI a_g s_o ++ (wP cI cJ a_h (puSends s_h (Int32.toNatClampNeg x1) x3)))) hx hb hK hP hD hS 6 0 rfl rfl hd (g_setR (j := 5) rfl (g_setR (j := 4) rfl (wP_uSends ..))) dX6_farm_67 (fun hd H locs hP hD hS => ?_)
        refine lv_iload hx hb dX6_farm_68 (lv_at hl 0 rfl) ?_
        exact rx_retUi (u := (s_o, (puSends s_h (Int32.toNatClampNeg x1) x3))) (w1 := (fun u : (Nat → Int32) × PS => (wGO a_g a_h a_q a_k a_p a_x a_s s_g ++ (wGT cI a_g u.1 ++ (wP cI cJ a_h u.2))))) hx hb hr hlocks hd hK hP hD hS dX6_farm_70
      clear hd
      have hd := hd1
      clear hd1
      exact absurd hd (by intro h; cases h)
    refine lv_aload_n hx hb dX6_farm_41 rfl (lv_at hl 0 rfl) ?_
    refine lv_iconst (v := 0) hx hb dX6_farm_42 ki_0 ?_
    refine rx_upi (fun u => (wGO a_g a_h a_q a_k a_p a_x a_s s_g ++ (wGT cI a_g u ++ (wP cI cJ a_h s_h)))) hd hP hD hS hA ⟨[0, 1], [2, 3, 4, 5, 6, 7, 8, 9, 10, 11], [10, 11, 0, 1, 2, 3, 4, 5, 6, 7, 8, 9], wP cI cJ a_h s_h, rfl, rfl, rfl, by decide, rfl, fun _ => rfl⟩ (fun v hv => va_runV (As := [.int (0 : Int32)]) (rest := []) hcf (c_X6_finding l dC dI cI cJ cQ fu a_g a_h a_q a_k a_p a_x a_s _  s_g s_o (0 : Int32) v hv) (cwV 1 hts gX6_farm_X6_finding rfl rfl rfl cd_X6_finding ⟨(Nat.le_of_ble_eq_true rfl), (Nat.le_of_ble_eq_true rfl)⟩) (cq_U_V (q0 := 0) (ci := 5) hK hP hD [0, 1] rfl rfl rfl rfl) rfl rfl hl.1 rfl (lv_room (Nat.le_of_ble_eq_true rfl)) dX6_farm_43 ⟨Nat.le_refl _, Nat.le_refl _⟩) (fun u43 hd H locs hP hD hS => ?_)
    exact rx_retUi (u := (u43.2, s_h)) (w1 := (fun u : (Nat → Int32) × PS => (wGO a_g a_h a_q a_k a_p a_x a_s s_g ++ (wGT cI a_g u.1 ++ (wP cI cJ a_h u.2))))) hx hb hr hlocks hd hK hP hD hS dX6_farm_46
  exact b16   s_o s_h hd _ _ _ hP hD hS (lv_sub hl [0] rfl)
theorem fiX6_farmOf_X6 : ∀ w ∈ wsX60, w ∈ wsX6_farmOf := mem_r _ [24, 25, 26, 27, 28, 29, 30, 31] rfl
set_option maxHeartbeats 8000000 in
set_option maxRecDepth 100000 in
theorem c_X6_farmOf (l : Launch) (dC : Nat → ClassId) (dI : Nat → Nat → Nat) (cI cJ cQ : ClassId) (fu : Nat) (a_g a_h a_q a_k a_p a_x a_s : Nat → Nat) (sz : Nat) (s_g : Int32) (s_o : (Nat → Int32)) (s_h : PS) (x1 : Int32) (x2 : Int32) (r : Int32 × (Nat → Int32)) (hd : fX6_farmOf fu  s_g s_o s_h x1 x2 = some r) : mUi l yX6_farmOf wsX6_farmOf (gRm 2 42) [.ref (a_g 0), .int x1, .int x2] (dC, dI) vwCl (gty cI cJ cQ) (wGO a_g a_h a_q a_k a_p a_x a_s s_g ++ (wGT cI a_g s_o ++ (wP cI cJ a_h s_h))) sz (fun u : (Nat → Int32) => (wGO a_g a_h a_q a_k a_p a_x a_s s_g ++ (wGT cI a_g u ++ (wP cI cJ a_h s_h)))) r := by
  refine Met.ofW (cc := cX6_farmOf) (maxL := 3) (ret := (some .int)) (by decide) rfl ?_
  intro p e s m args below meth c s₁ B hml hv
  obtain ⟨hav, hsz, hP, hK, hD0⟩ := hv
  subst hsz
  have hD := hD0.self (sz := s.heap.size)
  generalize hAe : va_A (wGO a_g a_h a_q a_k a_p a_x a_s s_g ++ (wGT cI a_g s_o ++ (wP cI cJ a_h s_h))) s.heap.size = A at hD ⊢
  have hA : ∀ q : Nat, s.heap.size ≤ q → A q := fun q h => by rw [← hAe]; exact Or.inr h
  have hS : va_S A s.heap s.heap [] := va_S.rf
  have hx := B.exec
  have hb := B.bytes
  have hr := B.returns
  have hts := atoms_spec (ws := wsX6_farmOf) B.pre
  have hown : s.vm.findClass RX6 = some m.cls := findClass_of_methodNamed B.named
  have hlocks := B.notSynchronized
  have hcf : CallFix p m c cX6_farmOf 3 s args wsX6_farmOf RX6 := ⟨hx, hb, hml, hown, hts⟩
  have fl_16 := hts (.fieldLink RX6 16 "BucketGift" "here" "LBucketGift$Parish;") (List.mem_of_getElem? (i := 1) rfl)
  have hg : entryFrame m args 3 = entryFrame m ([.ref (a_g 0), .int x1, .int x2] : List Value).toArray 3 := by rw [hav]
  rw [hg, lg_entry_eq]
  have hl := lv_entry ([.ref (a_g 0), .int x1, .int x2]) (n := 3) (Nat.le_of_ble_eq_true rfl)
  generalize (lg_sl ([.ref (a_g 0), .int x1, .int x2]) ++ List.replicate (3 - (lg_sl ([.ref (a_g 0), .int x1, .int x2])).length) Slot.unset).toArray = ls at hl ⊢
  have hl : lv_has ls 3 [(0, .ref (a_g 0)), (1, .int x1), (2, .int x2)] := hl
  clear hg
  unfold fX6_farmOf at hd
  have b16 : ∀ (s_o : (Nat → Int32)), fX6_farmOf_b16 fu s_g s_h   s_o = some r → bk_U p l e (headSpec wsX6_farmOf (gRm 2 42)).room s m args below meth c (qUi below args s (dC, dI) vwCl (gty cI cJ cQ) A (fun u : (Nat → Int32) => (wGO a_g a_h a_q a_k a_p a_x a_s s_g ++ (wGT cI a_g u ++ (wP cI cJ a_h s_h)))) r) (dC, dI) vwCl A 3 (wGO a_g a_h a_q a_k a_p a_x a_s s_g ++ (wGT cI a_g s_o ++ (wP cI cJ a_h s_h))) 16 [(0, .ref (a_g 0))] [] := by
    intro s_o hd
    intro H locs ls hP hD hS hl
    unfold fX6_farmOf_b16 at hd
    refine lv_aload_n hx hb dX6_farmOf_16 rfl (lv_at hl 0 rfl) ?_
    refine lv_iconst (v := 0) hx hb dX6_farmOf_17 ki_0 ?_
    refine rx_upi (fun u => (wGO a_g a_h a_q a_k a_p a_x a_s s_g ++ (wGT cI a_g u ++ (wP cI cJ a_h s_h)))) hd hP hD hS hA ⟨[0, 1], [2, 3, 4, 5, 6, 7, 8, 9, 10, 11], [10, 11, 0, 1, 2, 3, 4, 5, 6, 7, 8, 9], wP cI cJ a_h s_h, rfl, rfl, rfl, by decide, rfl, fun _ => rfl⟩ (fun v hv => va_runV (As := [.int (0 : Int32)]) (rest := []) hcf (c_X6_finding l dC dI cI cJ cQ fu a_g a_h a_q a_k a_p a_x a_s _  s_g s_o (0 : Int32) v hv) (cwV 1 hts gX6_farmOf_X6_finding rfl rfl rfl cd_X6_finding ⟨(Nat.le_of_ble_eq_true rfl), (Nat.le_of_ble_eq_true rfl)⟩) (cq_U_V (q0 := 0) (ci := 5) hK hP hD [0, 1] rfl rfl rfl rfl) rfl rfl hl.1 rfl (lv_room (Nat.le_of_ble_eq_true rfl)) dX6_farmOf_18 ⟨Nat.le_refl _, Nat.le_refl _⟩) (fun u18 hd H locs hP hD hS => ?_)
    exact rx_retUi (u := u18.2) (w1 := (fun u : (Nat → Int32) => (wGO a_g a_h a_q a_k a_p a_x a_s s_g ++ (wGT cI a_g u ++ (wP cI cJ a_h s_h))))) hx hb hr hlocks hd hK hP hD hS dX6_farmOf_21
  refine lv_iload_n hx hb dX6_farmOf_0 rfl (lv_at hl 1 rfl) ?_
  refine rx_roi hd (fun v hv => W.runS (As := [.int x1]) (rest := []) hcf (c_X6_isFarm l dC dI cI cJ cQ fu    x1 v hv) (va_cwS 1 hts gX6_farmOf_X6_isFarm rfl rfl rfl cd_X6_isFarm ⟨(Nat.le_of_ble_eq_true rfl), (Nat.le_of_ble_eq_true rfl)⟩) (cq_R_S hK hP [] rfl) rfl rfl hl.1 rfl (lv_room (Nat.le_of_ble_eq_true rfl)) dX6_farmOf_1 ⟨Nat.le_refl _, Nat.le_refl _⟩) (fun u1 hd => ?_)
  refine rx_if_eq hx hb 16 dX6_farmOf_4 rfl hd (fun hd => ?_) (fun hd => ?_)
  · exact b16   s_o hd _ _ _ hP hD hS (lv_sub hl [0] rfl)
  refine lv_iload_n hx hb dX6_farmOf_7 rfl (lv_at hl 2 rfl) ?_
  refine lv_iconst (v := 0) hx hb dX6_farmOf_8 ki_0 ?_
  refine lv_iconst (v := 3) hx hb dX6_farmOf_9 ki_3 ?_
  refine rx_roi hd (fun v hv => W.runS (As := [.int x2, .int (0 : Int32), .int (3 : Int32)]) (rest := []) hcf (c_X6_isWithin l dC dI cI cJ cQ fu    x2 (0 : Int32) (3 : Int32) v hv) (va_cwS 3 hts gX6_farmOf_X6_isWithin rfl rfl rfl cd_X6_isWithin ⟨(Nat.le_of_ble_eq_true rfl), (Nat.le_of_ble_eq_true rfl)⟩) (cq_R_S hK hP [] rfl) rfl rfl hl.1 rfl (lv_room (Nat.le_of_ble_eq_true rfl)) dX6_farmOf_10 ⟨Nat.le_refl _, Nat.le_refl _⟩) (fun u10 hd => ?_)
  refine rx_if_ne hx hb 22 dX6_farmOf_13 rfl hd (fun hd => ?_) (fun hd => ?_)
  · refine lv_aload_n hx hb dX6_farmOf_22 rfl (lv_at hl 0 rfl) ?_
    refine rx_get hx hb hts fiX6_farmOf_X6 hown hK hP 0 rfl rfl 1 (Nat.le_of_ble_eq_true rfl) fl_16 rfl rfl dX6_farmOf_23 ?_
    refine lv_iload_n hx hb dX6_farmOf_26 rfl (lv_at hl 2 rfl) ?_
    refine rx_ror hd (fun v hv => W.runV (As := [.int x2]) (rest := []) hcf (c_X1_rowOfFarms l dC dI cI cJ cQ fu a_h  s_h x2 v hv) (cwV 1 hts gX6_farmOf_X1_rowOfFarms rfl rfl rfl cd_X1_rowOfFarms ⟨(Nat.le_of_ble_eq_true rfl), (Nat.le_of_ble_eq_true rfl)⟩) (cq_R_V (q0 := 2) (ci := 0) hK hP [2, 3, 4, 5, 6, 7, 8, 9, 10, 11] rfl rfl rfl) rfl rfl hl.1 rfl (lv_room (Nat.le_of_ble_eq_true rfl)) dX6_farmOf_27 ⟨Nat.le_refl _, Nat.le_refl _⟩) (fun u27 hd => ?_)
    refine g_sel (n := 1) hd (fun e hd1 => ?_) (fun hd1 => ?_)
    · clear hd
      subst e
      have hd := hd1
      clear hd1
      refine lv_iload_n hx hb dX6_farmOf_30 rfl (lv_at hl 1 rfl) ?_
      refine rx_iald hx hb hK hP 3 0 rfl rfl hd dX6_farmOf_31 (fun v31 hd => ?_)
      exact rx_retUi (u := s_o) (w1 := (fun u : (Nat → Int32) => (wGO a_g a_h a_q a_k a_p a_x a_s s_g ++ (wGT cI a_g u ++ (wP cI cJ a_h s_h))))) hx hb hr hlocks hd hK hP hD hS dX6_farmOf_32
    clear hd
    have hd := hd1
    clear hd1
    refine g_sel (n := 2) hd (fun e hd1 => ?_) (fun hd1 => ?_)
    · clear hd
      subst e
      have hd := hd1
      clear hd1
      refine lv_iload_n hx hb dX6_farmOf_30 rfl (lv_at hl 1 rfl) ?_
      refine rx_iald hx hb hK hP 4 0 rfl rfl hd dX6_farmOf_31 (fun v31 hd => ?_)
      exact rx_retUi (u := s_o) (w1 := (fun u : (Nat → Int32) => (wGO a_g a_h a_q a_k a_p a_x a_s s_g ++ (wGT cI a_g u ++ (wP cI cJ a_h s_h))))) hx hb hr hlocks hd hK hP hD hS dX6_farmOf_32
    clear hd
    have hd := hd1
    clear hd1
    refine g_sel (n := 3) hd (fun e hd1 => ?_) (fun hd1 => ?_)
    · clear hd
      subst e
      have hd := hd1
      clear hd1
      refine lv_iload_n hx hb dX6_farmOf_30 rfl (lv_at hl 1 rfl) ?_
      refine rx_iald hx hb hK hP 5 0 rfl rfl hd dX6_farmOf_31 (fun v31 hd => ?_)
      exact rx_retUi (u := s_o) (w1 := (fun u : (Nat → Int32) => (wGO a_g a_h a_q a_k a_p a_x a_s s_g ++ (wGT cI a_g u ++ (wP cI cJ a_h s_h))))) hx hb hr hlocks hd hK hP hD hS dX6_farmOf_32
    clear hd
    have hd := hd1
    clear hd1
    refine g_sel (n := 4) hd (fun e hd1 => ?_) (fun hd1 => ?_)
    · clear hd
      subst e
      have hd := hd1
      clear hd1
      refine lv_iload_n hx hb dX6_farmOf_30 rfl (lv_at hl 1 rfl) ?_
      refine rx_iald hx hb hK hP 6 0 rfl rfl hd dX6_farmOf_31 (fun v31 hd => ?_)
      exact rx_retUi (u := s_o) (w1 := (fun u : (Nat → Int32) => (wGO a_g a_h a_q a_k a_p a_x a_s s_g ++ (wGT cI a_g u ++ (wP cI cJ a_h s_h))))) hx hb hr hlocks hd hK hP hD hS dX6_farmOf_32
    clear hd
    have hd := hd1
    clear hd1
    exact absurd hd (by intro h; cases h)
  exact b16   s_o hd _ _ _ hP hD hS (lv_sub hl [0] rfl)
theorem fiX6_water_X1 : ∀ w ∈ wsX10, w ∈ wsX6_water := mem_r _ [22, 23, 24, 25, 26, 27, 28, 29, 30, 31, 32, 33] rfl
theorem fiX6_water_X6 : ∀ w ∈ wsX60, w ∈ wsX6_water := mem_r _ [14, 15, 16, 17, 18, 19, 20, 21] rfl
set_option maxHeartbeats 8000000 in
set_option maxRecDepth 100000 in
theorem c_X6_water (l : Launch) (dC : Nat → ClassId) (dI : Nat → Nat → Nat) (cI cJ cQ : ClassId) (fu : Nat) (gz : GZ) (a_g a_h a_q a_k a_p a_x a_s : Nat → Nat) (sz : Nat) (s_g : Int32) (s_o : (Nat → Int32)) (s_h : PS) (x1 : Int32) (x2 : Int32) (r : Int32 × (Nat → Int32) × PS) (hd : fX6_water fu  s_g s_o s_h x1 x2 = some r) : mUiG l yX6_water wsX6_water (gRm 1 22) [.ref (a_g 0), .int x1, .int x2] (dC, dI) vwCl (gty cI cJ cQ) (wGO a_g a_h a_q a_k a_p a_x a_s s_g ++ (wGT cI a_g s_o ++ (wP cI cJ a_h s_h))) sz gz (fun u : (Nat → Int32) × PS => (wGO a_g a_h a_q a_k a_p a_x a_s s_g ++ (wGT cI a_g u.1 ++ (wP cI cJ a_h u.2)))) r := by
  refine Met.ofW (cc := cX6_water) (maxL := 4) (ret := (some .int)) (by decide) rfl ?_
  intro p e s m args below meth c s₁ B hml hv
  obtain ⟨hav, ⟨hsz, hP, hK, hD0⟩, hG⟩ := hv
  subst hsz
  have hD := hD0.self (sz := s.heap.size)
  generalize hAe : va_A (wGO a_g a_h a_q a_k a_p a_x a_s s_g ++ (wGT cI a_g s_o ++ (wP cI cJ a_h s_h))) s.heap.size = A at hD hG ⊢
  have hA : ∀ q : Nat, s.heap.size ≤ q → A q := fun q h => by rw [← hAe]; exact Or.inr h
  have hS : va_S A s.heap s.heap [] := va_S.rf
  have hx := B.exec
  have hb := B.bytes
  have hr := B.returns
  have hts := atoms_spec (ws := wsX6_water) B.pre
  have hown : s.vm.findClass RX6 = some m.cls := findClass_of_methodNamed B.named
  have hlocks := B.notSynchronized
  have hcf : CallFix p m c cX6_water 4 s args wsX6_water RX6 := ⟨hx, hb, hml, hown, hts⟩
  have fl_73 := hts (.fieldLink RX6 73 "BucketGift$Parish" "MOST_WATER" "[I") (List.mem_of_getElem? (i := 1) rfl)
  have fl_16 := hts (.fieldLink RX6 16 "BucketGift" "here" "LBucketGift$Parish;") (List.mem_of_getElem? (i := 2) rfl)
  have fl_76 := hts (.fieldLink RX6 76 "BucketGift$Parish" "water" "[I") (List.mem_of_getElem? (i := 3) rfl)
  have hg : entryFrame m args 4 = entryFrame m ([.ref (a_g 0), .int x1, .int x2] : List Value).toArray 4 := by rw [hav]
  rw [hg, lg_entry_eq]
  have hl := lv_entry ([.ref (a_g 0), .int x1, .int x2]) (n := 4) (Nat.le_of_ble_eq_true rfl)
  generalize (lg_sl ([.ref (a_g 0), .int x1, .int x2]) ++ List.replicate (4 - (lg_sl ([.ref (a_g 0), .int x1, .int x2])).length) Slot.unset).toArray = ls at hl ⊢
  have hl : lv_has ls 4 [(0, .ref (a_g 0)), (1, .int x1), (2, .int x2)] := hl
  clear hg
  unfold fX6_water at hd
  have b22 : ∀ (s_o : (Nat → Int32)) (s_h : PS), fX6_water_b22 fu s_g   s_o s_h = some r → bk_U p l e (headSpec wsX6_water (gRm 1 22)).room s m args below meth c (qUi below args s (dC, dI) vwCl (gty cI cJ cQ) A (fun u : (Nat → Int32) × PS => (wGO a_g a_h a_q a_k a_p a_x a_s s_g ++ (wGT cI a_g u.1 ++ (wP cI cJ a_h u.2)))) r) (dC, dI) vwCl A 4 (wGO a_g a_h a_q a_k a_p a_x a_s s_g ++ (wGT cI a_g s_o ++ (wP cI cJ a_h s_h))) 22 [(0, .ref (a_g 0))] [] := by
    intro s_o s_h hd
    intro H locs ls hP hD hS hl
    unfold fX6_water_b22 at hd
    refine lv_aload_n hx hb dX6_water_22 rfl (lv_at hl 0 rfl) ?_
    refine lv_iconst (v := 0) hx hb dX6_water_23 ki_0 ?_
    refine rx_upi (fun u => (wGO a_g a_h a_q a_k a_p a_x a_s s_g ++ (wGT cI a_g u ++ (wP cI cJ a_h s_h)))) hd hP hD hS hA ⟨[0, 1], [2, 3, 4, 5, 6, 7, 8, 9, 10, 11], [10, 11, 0, 1, 2, 3, 4, 5, 6, 7, 8, 9], wP cI cJ a_h s_h, rfl, rfl, rfl, by decide, rfl, fun _ => rfl⟩ (fun v hv => va_runV (As := [.int (0 : Int32)]) (rest := []) hcf (c_X6_finding l dC dI cI cJ cQ fu a_g a_h a_q a_k a_p a_x a_s _  s_g s_o (0 : Int32) v hv) (cwV 1 hts gX6_water_X6_finding rfl rfl rfl cd_X6_finding ⟨(Nat.le_of_ble_eq_true rfl), (Nat.le_of_ble_eq_true rfl)⟩) (cq_U_V (q0 := 0) (ci := 5) hK hP hD [0, 1] rfl rfl rfl rfl) rfl rfl hl.1 rfl (lv_room (Nat.le_of_ble_eq_true rfl)) dX6_water_24 ⟨Nat.le_refl _, Nat.le_refl _⟩) (fun u24 hd H locs hP hD hS => ?_)
    exact rx_retUi (u := (u24.2, s_h)) (w1 := (fun u : (Nat → Int32) × PS => (wGO a_g a_h a_q a_k a_p a_x a_s s_g ++ (wGT cI a_g u.1 ++ (wP cI cJ a_h u.2))))) hx hb hr hlocks hd hK hP hD hS dX6_water_27
  refine lv_iload_n hx hb dX6_water_0 rfl (lv_at hl 1 rfl) ?_
  refine lv_iconst (v := 0) hx hb dX6_water_1 ki_0 ?_
  refine lv_iconst (v := 2) hx hb dX6_water_2 ki_2 ?_
  refine rx_roi hd (fun v hv => W.runS (As := [.int x1, .int (0 : Int32), .int (2 : Int32)]) (rest := []) hcf (c_X6_isWithin l dC dI cI cJ cQ fu    x1 (0 : Int32) (2 : Int32) v hv) (va_cwS 3 hts gX6_water_X6_isWithin rfl rfl rfl cd_X6_isWithin ⟨(Nat.le_of_ble_eq_true rfl), (Nat.le_of_ble_eq_true rfl)⟩) (cq_R_S hK hP [] rfl) rfl rfl hl.1 rfl (lv_room (Nat.le_of_ble_eq_true rfl)) dX6_water_3 ⟨Nat.le_refl _, Nat.le_refl _⟩) (fun u3 hd => ?_)
  refine rx_if_eq hx hb 22 dX6_water_6 rfl hd (fun hd => ?_) (fun hd => ?_)
  · exact b22   s_o s_h hd _ _ _ hP hD hS (lv_sub hl [0] rfl)
  refine lv_iload_n hx hb dX6_water_9 rfl (lv_at hl 2 rfl) ?_
  refine lv_iconst (v := 0) hx hb dX6_water_10 ki_0 ?_
  refine va_gets hx hb hG.1 hS hown fl_73 (fun _ h => h) dX6_water_11 ?_
  refine lv_iload_n hx hb dX6_water_14 rfl (lv_at hl 1 rfl) ?_
  refine rx_tald (f := gMW) hx hb hG.2.1 hS hd dX6_water_15 (fun v15 hd => ?_)
  refine rx_roi hd (fun v hv => W.runS (As := [.int x2, .int (0 : Int32), .int v15]) (rest := []) hcf (c_X6_isWithin l dC dI cI cJ cQ fu    x2 (0 : Int32) v15 v hv) (va_cwS 3 hts gX6_water_X6_isWithin rfl rfl rfl cd_X6_isWithin ⟨(Nat.le_of_ble_eq_true rfl), (Nat.le_of_ble_eq_true rfl)⟩) (cq_R_S hK hP [] rfl) rfl rfl hl.1 rfl (lv_room (Nat.le_of_ble_eq_true rfl)) dX6_water_16 ⟨Nat.le_refl _, Nat.le_refl _⟩) (fun u16 hd => ?_)
  refine rx_if_ne hx hb 28 dX6_water_19 rfl hd (fun hd => ?_) (fun hd => ?_)
  · refine lv_aload_n hx hb dX6_water_28 rfl (lv_at hl 0 rfl) ?_
    refine rx_get hx hb hts fiX6_water_X6 hown hK hP 0 rfl rfl 1 (Nat.le_of_ble_eq_true rfl) fl_16 rfl rfl dX6_water_29 ?_
    refine rx_get hx hb hts fiX6_water_X1 hown hK hP 2 rfl rfl 4 (Nat.le_of_ble_eq_true rfl) fl_76 rfl rfl dX6_water_32 ?_
    refine lv_iload_n hx hb dX6_water_35 rfl (lv_at hl 1 rfl) ?_
    refine rx_iald hx hb hK hP 7 0 rfl rfl hd dX6_water_36 (fun v36 hd => ?_)
    refine lv_istore_n (lv' := [(3, .int v36), (0, .ref (a_g 0)), (1, .int x1), (2, .int x2)]) hx hb dX6_water_37 rfl hl (Nat.le_of_ble_eq_true rfl) rfl (fun ls hl => ?_)
    refine lv_aload_n hx hb dX6_water_38 rfl (lv_at hl 1 rfl) ?_
    refine rx_get hx hb hts fiX6_water_X6 hown hK hP 0 rfl rfl 1 (Nat.le_of_ble_eq_true rfl) fl_16 rfl rfl dX6_water_39 ?_
    refine rx_get hx hb hts fiX6_water_X1 hown hK hP 2 rfl rfl 4 (Nat.le_of_ble_eq_true rfl) fl_76 rfl rfl dX6_water_42 ?_
    refine lv_iload_n hx hb dX6_water_45 rfl (lv_at hl 2 rfl) ?_
    refine lv_iload_n hx hb dX6_water_46 rfl (lv_at hl 3 rfl) ?_
    refine rx_iast (wGO a_g a_h a_q a_k a_p a_x a_s s_g ++ (wGT cI a_g s_o ++ (wP cI cJ a_h (puWater s_h (Int32.toNatClampNeg x1) x2)))) hx hb hK hP hD hS 7 0 rfl rfl hd (g_setR (j := 6) rfl (g_setR (j := 5) rfl (wP_uWater ..))) dX6_water_47 (fun hd H locs hP hD hS => ?_)
    refine lv_iload_n hx hb dX6_water_48 rfl (lv_at hl 0 rfl) ?_
    exact rx_retUi (u := (s_o, (puWater s_h (Int32.toNatClampNeg x1) x2))) (w1 := (fun u : (Nat → Int32) × PS => (wGO a_g a_h a_q a_k a_p a_x a_s s_g ++ (wGT cI a_g u.1 ++ (wP cI cJ a_h u.2))))) hx hb hr hlocks hd hK hP hD hS dX6_water_49
  exact b22   s_o s_h hd _ _ _ hP hD hS (lv_sub hl [0] rfl)
theorem fiX6_person_X1 : ∀ w ∈ wsX10, w ∈ wsX6_person := mem_r _ [32, 33, 34, 35, 36, 37, 38, 39, 40, 41, 42, 43] rfl
theorem fiX6_person_X6 : ∀ w ∈ wsX60, w ∈ wsX6_person := mem_r _ [24, 25, 26, 27, 28, 29, 30, 31] rfl
set_option maxHeartbeats 8000000 in
set_option maxRecDepth 100000 in
theorem c_X6_person (l : Launch) (dC : Nat → ClassId) (dI : Nat → Nat → Nat) (cI cJ cQ : ClassId) (fu : Nat) (a_g a_h a_q a_k a_p a_x a_s : Nat → Nat) (sz : Nat) (s_g : Int32) (s_o : (Nat → Int32)) (s_h : PS) (x1 : Int32) (r : Int32 × (Nat → Int32) × PS) (hd : fX6_person fu  s_g s_o s_h x1 = some r) : mUi l yX6_person wsX6_person (gRm 1 22) [.ref (a_g 0), .int x1] (dC, dI) vwCl (gty cI cJ cQ) (wGO a_g a_h a_q a_k a_p a_x a_s s_g ++ (wGT cI a_g s_o ++ (wP cI cJ a_h s_h))) sz (fun u : (Nat → Int32) × PS => (wGO a_g a_h a_q a_k a_p a_x a_s s_g ++ (wGT cI a_g u.1 ++ (wP cI cJ a_h u.2)))) r := by
  refine Met.ofW (cc := cX6_person) (maxL := 2) (ret := (some .int)) (by decide) rfl ?_
  intro p e s m args below meth c s₁ B hml hv
  obtain ⟨hav, hsz, hP, hK, hD0⟩ := hv
  subst hsz
  have hD := hD0.self (sz := s.heap.size)
  generalize hAe : va_A (wGO a_g a_h a_q a_k a_p a_x a_s s_g ++ (wGT cI a_g s_o ++ (wP cI cJ a_h s_h))) s.heap.size = A at hD ⊢
  have hA : ∀ q : Nat, s.heap.size ≤ q → A q := fun q h => by rw [← hAe]; exact Or.inr h
  have hS : va_S A s.heap s.heap [] := va_S.rf
  have hx := B.exec
  have hb := B.bytes
  have hr := B.returns
  have hts := atoms_spec (ws := wsX6_person) B.pre
  have hown : s.vm.findClass RX6 = some m.cls := findClass_of_methodNamed B.named
  have hlocks := B.notSynchronized
  have hcf : CallFix p m c cX6_person 2 s args wsX6_person RX6 := ⟨hx, hb, hml, hown, hts⟩
  have fl_16 := hts (.fieldLink RX6 16 "BucketGift" "here" "LBucketGift$Parish;") (List.mem_of_getElem? (i := 1) rfl)
  have fl_84 := hts (.fieldLink RX6 84 "BucketGift$Parish" "people" "I") (List.mem_of_getElem? (i := 2) rfl)
  have hg : entryFrame m args 2 = entryFrame m ([.ref (a_g 0), .int x1] : List Value).toArray 2 := by rw [hav]
  rw [hg, lg_entry_eq]
  have hl := lv_entry ([.ref (a_g 0), .int x1]) (n := 2) (Nat.le_of_ble_eq_true rfl)
  generalize (lg_sl ([.ref (a_g 0), .int x1]) ++ List.replicate (2 - (lg_sl ([.ref (a_g 0), .int x1])).length) Slot.unset).toArray = ls at hl ⊢
  have hl : lv_has ls 2 [(0, .ref (a_g 0)), (1, .int x1)] := hl
  clear hg
  unfold fX6_person at hd
  refine lv_iload_n hx hb dX6_person_0 rfl (lv_at hl 1 rfl) ?_
  refine rx_roi hd (fun v hv => W.runS (As := [.int x1]) (rest := []) hcf (c_X0_isKind l dC dI cI cJ cQ fu    x1 v hv) (va_cwS 1 hts gX6_person_X0_isKind rfl rfl rfl cd_X0_isKind ⟨(Nat.le_of_ble_eq_true rfl), (Nat.le_of_ble_eq_true rfl)⟩) (cq_R_S hK hP [] rfl) rfl rfl hl.1 rfl (lv_room (Nat.le_of_ble_eq_true rfl)) dX6_person_1 ⟨Nat.le_refl _, Nat.le_refl _⟩) (fun u1 hd => ?_)
  refine rx_if_ne hx hb 13 dX6_person_4 rfl hd (fun hd => ?_) (fun hd => ?_)
  · refine lv_aload_n hx hb dX6_person_13 rfl (lv_at hl 0 rfl) ?_
    refine rx_get hx hb hts fiX6_person_X6 hown hK hP 0 rfl rfl 1 (Nat.le_of_ble_eq_true rfl) fl_16 rfl rfl dX6_person_14 ?_
    refine rx_get hx hb hts fiX6_person_X1 hown hK hP 2 rfl rfl 7 (Nat.le_of_ble_eq_true rfl) fl_84 rfl rfl dX6_person_17 ?_
    refine lv_bipush (v := 8) hx hb dX6_person_20 kb_8 ?_
    refine rx_icmp_lt hx hb 31 dX6_person_22 rfl hd (fun hd => ?_) (fun hd => ?_)
    · refine lv_aload_n hx hb dX6_person_31 rfl (lv_at hl 0 rfl) ?_
      refine rx_get hx hb hts fiX6_person_X6 hown hK hP 0 rfl rfl 1 (Nat.le_of_ble_eq_true rfl) fl_16 rfl rfl dX6_person_32 ?_
      refine lv_iload_n hx hb dX6_person_35 rfl (lv_at hl 1 rfl) ?_
      refine rx_upi (fun u => (wGO a_g a_h a_q a_k a_p a_x a_s s_g ++ (wGT cI a_g s_o ++ (wP cI cJ a_h u)))) hd hP hD hS hA ⟨[2, 3, 4, 5, 6, 7, 8, 9, 10, 11], [0, 1], [0, 1, 2, 3, 4, 5, 6, 7, 8, 9, 10, 11], wGO a_g a_h a_q a_k a_p a_x a_s s_g ++ (wGT cI a_g s_o), rfl, rfl, rfl, by decide, rfl, fun _ => rfl⟩ (fun v hv => va_runV (As := [.int x1]) (rest := []) hcf (c_X1_addPerson l dC dI cI cJ cQ fu a_h _  s_h x1 v hv) (cwV 1 hts gX6_person_X1_addPerson rfl rfl rfl cd_X1_addPerson ⟨(Nat.le_of_ble_eq_true rfl), (Nat.le_of_ble_eq_true rfl)⟩) (cq_U_V (q0 := 2) (ci := 0) hK hP hD [2, 3, 4, 5, 6, 7, 8, 9, 10, 11] rfl rfl rfl rfl) rfl rfl hl.1 rfl (lv_room (Nat.le_of_ble_eq_true rfl)) dX6_person_36 ⟨Nat.le_refl _, Nat.le_refl _⟩) (fun u36 hd H locs hP hD hS => ?_)
      exact rx_retUi (u := (s_o, u36.2)) (w1 := (fun u : (Nat → Int32) × PS => (wGO a_g a_h a_q a_k a_p a_x a_s s_g ++ (wGT cI a_g u.1 ++ (wP cI cJ a_h u.2))))) hx hb hr hlocks hd hK hP hD hS dX6_person_39
    refine lv_aload_n hx hb dX6_person_25 rfl (lv_at hl 0 rfl) ?_
    refine lv_iconst (v := 1) hx hb dX6_person_26 ki_1 ?_
    refine rx_upi (fun u => (wGO a_g a_h a_q a_k a_p a_x a_s s_g ++ (wGT cI a_g u ++ (wP cI cJ a_h s_h)))) hd hP hD hS hA ⟨[0, 1], [2, 3, 4, 5, 6, 7, 8, 9, 10, 11], [10, 11, 0, 1, 2, 3, 4, 5, 6, 7, 8, 9], wP cI cJ a_h s_h, rfl, rfl, rfl, by decide, rfl, fun _ => rfl⟩ (fun v hv => va_runV (As := [.int (1 : Int32)]) (rest := []) hcf (c_X6_finding l dC dI cI cJ cQ fu a_g a_h a_q a_k a_p a_x a_s _  s_g s_o (1 : Int32) v hv) (cwV 1 hts gX6_person_X6_finding rfl rfl rfl cd_X6_finding ⟨(Nat.le_of_ble_eq_true rfl), (Nat.le_of_ble_eq_true rfl)⟩) (cq_U_V (q0 := 0) (ci := 5) hK hP hD [0, 1] rfl rfl rfl rfl) rfl rfl hl.1 rfl (lv_room (Nat.le_of_ble_eq_true rfl)) dX6_person_27 ⟨Nat.le_refl _, Nat.le_refl _⟩) (fun u27 hd H locs hP hD hS => ?_)
    exact rx_retUi (u := (u27.2, s_h)) (w1 := (fun u : (Nat → Int32) × PS => (wGO a_g a_h a_q a_k a_p a_x a_s s_g ++ (wGT cI a_g u.1 ++ (wP cI cJ a_h u.2))))) hx hb hr hlocks hd hK hP hD hS dX6_person_30
  refine lv_aload_n hx hb dX6_person_7 rfl (lv_at hl 0 rfl) ?_
  refine lv_iconst (v := 0) hx hb dX6_person_8 ki_0 ?_
  refine rx_upi (fun u => (wGO a_g a_h a_q a_k a_p a_x a_s s_g ++ (wGT cI a_g u ++ (wP cI cJ a_h s_h)))) hd hP hD hS hA ⟨[0, 1], [2, 3, 4, 5, 6, 7, 8, 9, 10, 11], [10, 11, 0, 1, 2, 3, 4, 5, 6, 7, 8, 9], wP cI cJ a_h s_h, rfl, rfl, rfl, by decide, rfl, fun _ => rfl⟩ (fun v hv => va_runV (As := [.int (0 : Int32)]) (rest := []) hcf (c_X6_finding l dC dI cI cJ cQ fu a_g a_h a_q a_k a_p a_x a_s _  s_g s_o (0 : Int32) v hv) (cwV 1 hts gX6_person_X6_finding rfl rfl rfl cd_X6_finding ⟨(Nat.le_of_ble_eq_true rfl), (Nat.le_of_ble_eq_true rfl)⟩) (cq_U_V (q0 := 0) (ci := 5) hK hP hD [0, 1] rfl rfl rfl rfl) rfl rfl hl.1 rfl (lv_room (Nat.le_of_ble_eq_true rfl)) dX6_person_9 ⟨Nat.le_refl _, Nat.le_refl _⟩) (fun u9 hd H locs hP hD hS => ?_)
  exact rx_retUi (u := (u9.2, s_h)) (w1 := (fun u : (Nat → Int32) × PS => (wGO a_g a_h a_q a_k a_p a_x a_s s_g ++ (wGT cI a_g u.1 ++ (wP cI cJ a_h u.2))))) hx hb hr hlocks hd hK hP hD hS dX6_person_12
theorem fiX6_of_X6 : ∀ w ∈ wsX60, w ∈ wsX6_of := mem_r _ [58, 59, 60, 61, 62, 63, 64, 65] rfl
set_option maxHeartbeats 8000000 in
set_option maxRecDepth 100000 in
theorem c_X6_of (l : Launch) (dC : Nat → ClassId) (dI : Nat → Nat → Nat) (cI cJ cQ : ClassId) (fu : Nat) (a_g a_h a_q a_k a_p a_x a_s : Nat → Nat) (sz : Nat) (s_g : Int32) (s_o : (Nat → Int32)) (s_h : PS) (x1 : Int32) (x2 : Int32) (r : Int32 × (Nat → Int32)) (hd : fX6_of fu  s_g s_o s_h x1 x2 = some r) : mUi l yX6_of wsX6_of (gRm 4 90) [.ref (a_g 0), .int x1, .int x2] (dC, dI) vwCl (gty cI cJ cQ) (wGO a_g a_h a_q a_k a_p a_x a_s s_g ++ (wGT cI a_g s_o ++ (wP cI cJ a_h s_h))) sz (fun u : (Nat → Int32) => (wGO a_g a_h a_q a_k a_p a_x a_s s_g ++ (wGT cI a_g u ++ (wP cI cJ a_h s_h)))) r := by
  refine Met.ofW (cc := cX6_of) (maxL := 3) (ret := (some .int)) (by decide) rfl ?_
  intro p e s m args below meth c s₁ B hml hv
  obtain ⟨hav, hsz, hP, hK, hD0⟩ := hv
  subst hsz
  have hD := hD0.self (sz := s.heap.size)
  generalize hAe : va_A (wGO a_g a_h a_q a_k a_p a_x a_s s_g ++ (wGT cI a_g s_o ++ (wP cI cJ a_h s_h))) s.heap.size = A at hD ⊢
  have hA : ∀ q : Nat, s.heap.size ≤ q → A q := fun q h => by rw [← hAe]; exact Or.inr h
  have hS : va_S A s.heap s.heap [] := va_S.rf
  have hx := B.exec
  have hb := B.bytes
  have hr := B.returns
  have hts := atoms_spec (ws := wsX6_of) B.pre
  have hown : s.vm.findClass RX6 = some m.cls := findClass_of_methodNamed B.named
  have hlocks := B.notSynchronized
  have hcf : CallFix p m c cX6_of 3 s args wsX6_of RX6 := ⟨hx, hb, hml, hown, hts⟩
  have fl_16 := hts (.fieldLink RX6 16 "BucketGift" "here" "LBucketGift$Parish;") (List.mem_of_getElem? (i := 1) rfl)
  have hg : entryFrame m args 3 = entryFrame m ([.ref (a_g 0), .int x1, .int x2] : List Value).toArray 3 := by rw [hav]
  rw [hg, lg_entry_eq]
  have hl := lv_entry ([.ref (a_g 0), .int x1, .int x2]) (n := 3) (Nat.le_of_ble_eq_true rfl)
  generalize (lg_sl ([.ref (a_g 0), .int x1, .int x2]) ++ List.replicate (3 - (lg_sl ([.ref (a_g 0), .int x1, .int x2])).length) Slot.unset).toArray = ls at hl ⊢
  have hl : lv_has ls 3 [(0, .ref (a_g 0)), (1, .int x1), (2, .int x2)] := hl
  clear hg
  unfold fX6_of at hd
  have b20 : ∀ (s_o : (Nat → Int32)), fX6_of_b20 fu s_g s_h   s_o = some r → bk_U p l e (headSpec wsX6_of (gRm 4 90)).room s m args below meth c (qUi below args s (dC, dI) vwCl (gty cI cJ cQ) A (fun u : (Nat → Int32) => (wGO a_g a_h a_q a_k a_p a_x a_s s_g ++ (wGT cI a_g u ++ (wP cI cJ a_h s_h)))) r) (dC, dI) vwCl A 3 (wGO a_g a_h a_q a_k a_p a_x a_s s_g ++ (wGT cI a_g s_o ++ (wP cI cJ a_h s_h))) 20 [(0, .ref (a_g 0))] [] := by
    intro s_o hd
    intro H locs ls hP hD hS hl
    unfold fX6_of_b20 at hd
    refine lv_aload_n hx hb dX6_of_20 rfl (lv_at hl 0 rfl) ?_
    refine lv_iconst (v := 0) hx hb dX6_of_21 ki_0 ?_
    refine rx_upi (fun u => (wGO a_g a_h a_q a_k a_p a_x a_s s_g ++ (wGT cI a_g u ++ (wP cI cJ a_h s_h)))) hd hP hD hS hA ⟨[0, 1], [2, 3, 4, 5, 6, 7, 8, 9, 10, 11], [10, 11, 0, 1, 2, 3, 4, 5, 6, 7, 8, 9], wP cI cJ a_h s_h, rfl, rfl, rfl, by decide, rfl, fun _ => rfl⟩ (fun v hv => va_runV (As := [.int (0 : Int32)]) (rest := []) hcf (c_X6_finding l dC dI cI cJ cQ fu a_g a_h a_q a_k a_p a_x a_s _  s_g s_o (0 : Int32) v hv) (cwV 1 hts gX6_of_X6_finding rfl rfl rfl cd_X6_finding ⟨(Nat.le_of_ble_eq_true rfl), (Nat.le_of_ble_eq_true rfl)⟩) (cq_U_V (q0 := 0) (ci := 5) hK hP hD [0, 1] rfl rfl rfl rfl) rfl rfl hl.1 rfl (lv_room (Nat.le_of_ble_eq_true rfl)) dX6_of_22 ⟨Nat.le_refl _, Nat.le_refl _⟩) (fun u22 hd H locs hP hD hS => ?_)
    exact rx_retUi (u := u22.2) (w1 := (fun u : (Nat → Int32) => (wGO a_g a_h a_q a_k a_p a_x a_s s_g ++ (wGT cI a_g u ++ (wP cI cJ a_h s_h))))) hx hb hr hlocks hd hK hP hD hS dX6_of_25
  refine lv_aload_n hx hb dX6_of_0 rfl (lv_at hl 0 rfl) ?_
  refine rx_get hx hb hts fiX6_of_X6 hown hK hP 0 rfl rfl 1 (Nat.le_of_ble_eq_true rfl) fl_16 rfl rfl dX6_of_1 ?_
  refine lv_iload_n hx hb dX6_of_4 rfl (lv_at hl 1 rfl) ?_
  refine rx_roi hd (fun v hv => W.runV (As := [.int x1]) (rest := []) hcf (c_X1_isThere l dC dI cI cJ cQ fu a_h  s_h x1 v hv) (cwV 1 hts gX6_of_X1_isThere rfl rfl rfl cd_X1_isThere ⟨(Nat.le_of_ble_eq_true rfl), (Nat.le_of_ble_eq_true rfl)⟩) (cq_R_V (q0 := 2) (ci := 0) hK hP [2, 3, 4, 5, 6, 7, 8, 9, 10, 11] rfl rfl rfl) rfl rfl hl.1 rfl (lv_room (Nat.le_of_ble_eq_true rfl)) dX6_of_5 ⟨Nat.le_refl _, Nat.le_refl _⟩) (fun u5 hd => ?_)
  refine rx_if_eq hx hb 20 dX6_of_8 rfl hd (fun hd => ?_) (fun hd => ?_)
  · exact b20   s_o hd _ _ _ hP hD hS (lv_sub hl [0] rfl)
  refine lv_iload_n hx hb dX6_of_11 rfl (lv_at hl 2 rfl) ?_
  refine lv_iconst (v := 0) hx hb dX6_of_12 ki_0 ?_
  refine lv_iconst (v := 5) hx hb dX6_of_13 ki_5 ?_
  refine rx_roi hd (fun v hv => W.runS (As := [.int x2, .int (0 : Int32), .int (5 : Int32)]) (rest := []) hcf (c_X6_isWithin l dC dI cI cJ cQ fu    x2 (0 : Int32) (5 : Int32) v hv) (va_cwS 3 hts gX6_of_X6_isWithin rfl rfl rfl cd_X6_isWithin ⟨(Nat.le_of_ble_eq_true rfl), (Nat.le_of_ble_eq_true rfl)⟩) (cq_R_S hK hP [] rfl) rfl rfl hl.1 rfl (lv_room (Nat.le_of_ble_eq_true rfl)) dX6_of_14 ⟨Nat.le_refl _, Nat.le_refl _⟩) (fun u14 hd => ?_)
  refine rx_if_ne hx hb 26 dX6_of_17 rfl hd (fun hd => ?_) (fun hd => ?_)
  · refine lv_iload_n hx hb dX6_of_26 rfl (lv_at hl 2 rfl) ?_
    refine lv_iconst (v := 4) hx hb dX6_of_27 ki_4 ?_
    refine rx_icmp_ne hx hb 40 dX6_of_28 rfl hd (fun hd => ?_) (fun hd => ?_)
    · refine lv_iload_n hx hb dX6_of_40 rfl (lv_at hl 2 rfl) ?_
      refine lv_iconst (v := 5) hx hb dX6_of_41 ki_5 ?_
      refine rx_icmp_ne hx hb 54 dX6_of_42 rfl hd (fun hd => ?_) (fun hd => ?_)
      · refine lv_aload_n hx hb dX6_of_54 rfl (lv_at hl 0 rfl) ?_
        refine rx_get hx hb hts fiX6_of_X6 hown hK hP 0 rfl rfl 1 (Nat.le_of_ble_eq_true rfl) fl_16 rfl rfl dX6_of_55 ?_
        refine lv_iload_n hx hb dX6_of_58 rfl (lv_at hl 2 rfl) ?_
        refine rx_ror hd (fun v hv => W.runV (As := [.int x2]) (rest := []) hcf (c_X1_rowOfPeople l dC dI cI cJ cQ fu a_h  s_h x2 v hv) (cwV 1 hts gX6_of_X1_rowOfPeople rfl rfl rfl cd_X1_rowOfPeople ⟨(Nat.le_of_ble_eq_true rfl), (Nat.le_of_ble_eq_true rfl)⟩) (cq_R_V (q0 := 2) (ci := 0) hK hP [2, 3, 4, 5, 6, 7, 8, 9, 10, 11] rfl rfl rfl) rfl rfl hl.1 rfl (lv_room (Nat.le_of_ble_eq_true rfl)) dX6_of_59 ⟨Nat.le_refl _, Nat.le_refl _⟩) (fun u59 hd => ?_)
        refine g_sel (n := 6) hd (fun e hd1 => ?_) (fun hd1 => ?_)
        · clear hd
          subst e
          have hd := hd1
          clear hd1
          refine lv_iload_n hx hb dX6_of_62 rfl (lv_at hl 1 rfl) ?_
          refine rx_iald hx hb hK hP 8 0 rfl rfl hd dX6_of_63 (fun v63 hd => ?_)
          exact rx_retUi (u := s_o) (w1 := (fun u : (Nat → Int32) => (wGO a_g a_h a_q a_k a_p a_x a_s s_g ++ (wGT cI a_g u ++ (wP cI cJ a_h s_h))))) hx hb hr hlocks hd hK hP hD hS dX6_of_64
        clear hd
        have hd := hd1
        clear hd1
        refine g_sel (n := 7) hd (fun e hd1 => ?_) (fun hd1 => ?_)
        · clear hd
          subst e
          have hd := hd1
          clear hd1
          refine lv_iload_n hx hb dX6_of_62 rfl (lv_at hl 1 rfl) ?_
          refine rx_iald hx hb hK hP 9 0 rfl rfl hd dX6_of_63 (fun v63 hd => ?_)
          exact rx_retUi (u := s_o) (w1 := (fun u : (Nat → Int32) => (wGO a_g a_h a_q a_k a_p a_x a_s s_g ++ (wGT cI a_g u ++ (wP cI cJ a_h s_h))))) hx hb hr hlocks hd hK hP hD hS dX6_of_64
        clear hd
        have hd := hd1
        clear hd1
        refine g_sel (n := 8) hd (fun e hd1 => ?_) (fun hd1 => ?_)
        · clear hd
          subst e
          have hd := hd1
          clear hd1
          refine lv_iload_n hx hb dX6_of_62 rfl (lv_at hl 1 rfl) ?_
          refine rx_iald hx hb hK hP 10 0 rfl rfl hd dX6_of_63 (fun v63 hd => ?_)
          exact rx_retUi (u := s_o) (w1 := (fun u : (Nat → Int32) => (wGO a_g a_h a_q a_k a_p a_x a_s s_g ++ (wGT cI a_g u ++ (wP cI cJ a_h s_h))))) hx hb hr hlocks hd hK hP hD hS dX6_of_64
        clear hd
        have hd := hd1
        clear hd1
        refine g_sel (n := 9) hd (fun e hd1 => ?_) (fun hd1 => ?_)
        · clear hd
          subst e
          have hd := hd1
          clear hd1
          refine lv_iload_n hx hb dX6_of_62 rfl (lv_at hl 1 rfl) ?_
          refine rx_iald hx hb hK hP 11 0 rfl rfl hd dX6_of_63 (fun v63 hd => ?_)
          exact rx_retUi (u := s_o) (w1 := (fun u : (Nat → Int32) => (wGO a_g a_h a_q a_k a_p a_x a_s s_g ++ (wGT cI a_g u ++ (wP cI cJ a_h s_h))))) hx hb hr hlocks hd hK hP hD hS dX6_of_64
        clear hd
        have hd := hd1
        clear hd1
        exact absurd hd (by intro h; cases h)
      refine lv_aload_n hx hb dX6_of_45 rfl (lv_at hl 0 rfl) ?_
      refine rx_get hx hb hts fiX6_of_X6 hown hK hP 0 rfl rfl 1 (Nat.le_of_ble_eq_true rfl) fl_16 rfl rfl dX6_of_46 ?_
      refine lv_iload_n hx hb dX6_of_49 rfl (lv_at hl 1 rfl) ?_
      refine rx_roi hd (fun v hv => W.runV (As := [.int x1]) (rest := []) hcf (c_X1_givenTo l dC dI cI cJ cQ fu a_h  s_h x1 v hv) (cwV 1 hts gX6_of_X1_givenTo rfl rfl rfl cd_X1_givenTo ⟨(Nat.le_of_ble_eq_true rfl), (Nat.le_of_ble_eq_true rfl)⟩) (cq_R_V (q0 := 2) (ci := 0) hK hP [2, 3, 4, 5, 6, 7, 8, 9, 10, 11] rfl rfl rfl) rfl rfl hl.1 rfl (lv_room (Nat.le_of_ble_eq_true rfl)) dX6_of_50 ⟨Nat.le_refl _, Nat.le_refl _⟩) (fun u50 hd => ?_)
      exact rx_retUi (u := s_o) (w1 := (fun u : (Nat → Int32) => (wGO a_g a_h a_q a_k a_p a_x a_s s_g ++ (wGT cI a_g u ++ (wP cI cJ a_h s_h))))) hx hb hr hlocks hd hK hP hD hS dX6_of_53
    refine lv_aload_n hx hb dX6_of_31 rfl (lv_at hl 0 rfl) ?_
    refine rx_get hx hb hts fiX6_of_X6 hown hK hP 0 rfl rfl 1 (Nat.le_of_ble_eq_true rfl) fl_16 rfl rfl dX6_of_32 ?_
    refine lv_iload_n hx hb dX6_of_35 rfl (lv_at hl 1 rfl) ?_
    refine rx_roi hd (fun v hv => W.runV (As := [.int x1]) (rest := []) hcf (c_X1_deservedBy l dC dI cI cJ cQ fu a_h  s_h x1 v hv) (cwV 1 hts gX6_of_X1_deservedBy rfl rfl rfl cd_X1_deservedBy ⟨(Nat.le_of_ble_eq_true rfl), (Nat.le_of_ble_eq_true rfl)⟩) (cq_R_V (q0 := 2) (ci := 0) hK hP [2, 3, 4, 5, 6, 7, 8, 9, 10, 11] rfl rfl rfl) rfl rfl hl.1 rfl (lv_room (Nat.le_of_ble_eq_true rfl)) dX6_of_36 ⟨Nat.le_refl _, Nat.le_refl _⟩) (fun u36 hd => ?_)
    exact rx_retUi (u := s_o) (w1 := (fun u : (Nat → Int32) => (wGO a_g a_h a_q a_k a_p a_x a_s s_g ++ (wGT cI a_g u ++ (wP cI cJ a_h s_h))))) hx hb hr hlocks hd hK hP hD hS dX6_of_39
  exact b20   s_o hd _ _ _ hP hD hS (lv_sub hl [0] rfl)
theorem fiX6_set_X6 : ∀ w ∈ wsX60, w ∈ wsX6_set := mem_r _ [30, 31, 32, 33, 34, 35, 36, 37] rfl
set_option maxHeartbeats 8000000 in
set_option maxRecDepth 100000 in
theorem c_X6_set (l : Launch) (dC : Nat → ClassId) (dI : Nat → Nat → Nat) (cI cJ cQ : ClassId) (fu : Nat) (a_g a_h a_q a_k a_p a_x a_s : Nat → Nat) (sz : Nat) (s_g : Int32) (s_o : (Nat → Int32)) (s_h : PS) (x1 : Int32) (x2 : Int32) (x3 : Int32) (r : Int32 × (Nat → Int32) × PS) (hd : fX6_set fu  s_g s_o s_h x1 x2 x3 = some r) : mUi l yX6_set wsX6_set (gRm 1 22) [.ref (a_g 0), .int x1, .int x2, .int x3] (dC, dI) vwCl (gty cI cJ cQ) (wGO a_g a_h a_q a_k a_p a_x a_s s_g ++ (wGT cI a_g s_o ++ (wP cI cJ a_h s_h))) sz (fun u : (Nat → Int32) × PS => (wGO a_g a_h a_q a_k a_p a_x a_s s_g ++ (wGT cI a_g u.1 ++ (wP cI cJ a_h u.2)))) r := by
  refine Met.ofW (cc := cX6_set) (maxL := 6) (ret := (some .int)) (by decide) rfl ?_
  intro p e s m args below meth c s₁ B hml hv
  obtain ⟨hav, hsz, hP, hK, hD0⟩ := hv
  subst hsz
  have hD := hD0.self (sz := s.heap.size)
  generalize hAe : va_A (wGO a_g a_h a_q a_k a_p a_x a_s s_g ++ (wGT cI a_g s_o ++ (wP cI cJ a_h s_h))) s.heap.size = A at hD ⊢
  have hA : ∀ q : Nat, s.heap.size ≤ q → A q := fun q h => by rw [← hAe]; exact Or.inr h
  have hS : va_S A s.heap s.heap [] := va_S.rf
  have hx := B.exec
  have hb := B.bytes
  have hr := B.returns
  have hts := atoms_spec (ws := wsX6_set) B.pre
  have hown : s.vm.findClass RX6 = some m.cls := findClass_of_methodNamed B.named
  have hlocks := B.notSynchronized
  have hcf : CallFix p m c cX6_set 6 s args wsX6_set RX6 := ⟨hx, hb, hml, hown, hts⟩
  have fl_16 := hts (.fieldLink RX6 16 "BucketGift" "here" "LBucketGift$Parish;") (List.mem_of_getElem? (i := 1) rfl)
  have hg : entryFrame m args 6 = entryFrame m ([.ref (a_g 0), .int x1, .int x2, .int x3] : List Value).toArray 6 := by rw [hav]
  rw [hg, lg_entry_eq]
  have hl := lv_entry ([.ref (a_g 0), .int x1, .int x2, .int x3]) (n := 6) (Nat.le_of_ble_eq_true rfl)
  generalize (lg_sl ([.ref (a_g 0), .int x1, .int x2, .int x3]) ++ List.replicate (6 - (lg_sl ([.ref (a_g 0), .int x1, .int x2, .int x3])).length) Slot.unset).toArray = ls at hl ⊢
  have hl : lv_has ls 6 [(0, .ref (a_g 0)), (1, .int x1), (2, .int x2), (3, .int x3)] := hl
  clear hg
  unfold fX6_set at hd
  have b20 : ∀ (s_o : (Nat → Int32)) (s_h : PS), fX6_set_b20 fu s_g   s_o s_h = some r → bk_U p l e (headSpec wsX6_set (gRm 1 22)).room s m args below meth c (qUi below args s (dC, dI) vwCl (gty cI cJ cQ) A (fun u : (Nat → Int32) × PS => (wGO a_g a_h a_q a_k a_p a_x a_s s_g ++ (wGT cI a_g u.1 ++ (wP cI cJ a_h u.2)))) r) (dC, dI) vwCl A 6 (wGO a_g a_h a_q a_k a_p a_x a_s s_g ++ (wGT cI a_g s_o ++ (wP cI cJ a_h s_h))) 20 [(0, .ref (a_g 0))] [] := by
    intro s_o s_h hd
    intro H locs ls hP hD hS hl
    unfold fX6_set_b20 at hd
    refine lv_aload_n hx hb dX6_set_20 rfl (lv_at hl 0 rfl) ?_
    refine lv_iconst (v := 0) hx hb dX6_set_21 ki_0 ?_
    refine rx_upi (fun u => (wGO a_g a_h a_q a_k a_p a_x a_s s_g ++ (wGT cI a_g u ++ (wP cI cJ a_h s_h)))) hd hP hD hS hA ⟨[0, 1], [2, 3, 4, 5, 6, 7, 8, 9, 10, 11], [10, 11, 0, 1, 2, 3, 4, 5, 6, 7, 8, 9], wP cI cJ a_h s_h, rfl, rfl, rfl, by decide, rfl, fun _ => rfl⟩ (fun v hv => va_runV (As := [.int (0 : Int32)]) (rest := []) hcf (c_X6_finding l dC dI cI cJ cQ fu a_g a_h a_q a_k a_p a_x a_s _  s_g s_o (0 : Int32) v hv) (cwV 1 hts gX6_set_X6_finding rfl rfl rfl cd_X6_finding ⟨(Nat.le_of_ble_eq_true rfl), (Nat.le_of_ble_eq_true rfl)⟩) (cq_U_V (q0 := 0) (ci := 5) hK hP hD [0, 1] rfl rfl rfl rfl) rfl rfl hl.1 rfl (lv_room (Nat.le_of_ble_eq_true rfl)) dX6_set_22 ⟨Nat.le_refl _, Nat.le_refl _⟩) (fun u22 hd H locs hP hD hS => ?_)
    exact rx_retUi (u := (u22.2, s_h)) (w1 := (fun u : (Nat → Int32) × PS => (wGO a_g a_h a_q a_k a_p a_x a_s s_g ++ (wGT cI a_g u.1 ++ (wP cI cJ a_h u.2))))) hx hb hr hlocks hd hK hP hD hS dX6_set_25
  refine lv_aload_n hx hb dX6_set_0 rfl (lv_at hl 0 rfl) ?_
  refine rx_get hx hb hts fiX6_set_X6 hown hK hP 0 rfl rfl 1 (Nat.le_of_ble_eq_true rfl) fl_16 rfl rfl dX6_set_1 ?_
  refine lv_iload_n hx hb dX6_set_4 rfl (lv_at hl 1 rfl) ?_
  refine rx_roi hd (fun v hv => W.runV (As := [.int x1]) (rest := []) hcf (c_X1_isThere l dC dI cI cJ cQ fu a_h  s_h x1 v hv) (cwV 1 hts gX6_set_X1_isThere rfl rfl rfl cd_X1_isThere ⟨(Nat.le_of_ble_eq_true rfl), (Nat.le_of_ble_eq_true rfl)⟩) (cq_R_V (q0 := 2) (ci := 0) hK hP [2, 3, 4, 5, 6, 7, 8, 9, 10, 11] rfl rfl rfl) rfl rfl hl.1 rfl (lv_room (Nat.le_of_ble_eq_true rfl)) dX6_set_5 ⟨Nat.le_refl _, Nat.le_refl _⟩) (fun u5 hd => ?_)
  refine rx_if_eq hx hb 20 dX6_set_8 rfl hd (fun hd => ?_) (fun hd => ?_)
  · exact b20   s_o s_h hd _ _ _ hP hD hS (lv_sub hl [0] rfl)
  refine lv_iload_n hx hb dX6_set_11 rfl (lv_at hl 2 rfl) ?_
  refine lv_iconst (v := 1) hx hb dX6_set_12 ki_1 ?_
  refine lv_iconst (v := 3) hx hb dX6_set_13 ki_3 ?_
  refine rx_roi hd (fun v hv => W.runS (As := [.int x2, .int (1 : Int32), .int (3 : Int32)]) (rest := []) hcf (c_X6_isWithin l dC dI cI cJ cQ fu    x2 (1 : Int32) (3 : Int32) v hv) (va_cwS 3 hts gX6_set_X6_isWithin rfl rfl rfl cd_X6_isWithin ⟨(Nat.le_of_ble_eq_true rfl), (Nat.le_of_ble_eq_true rfl)⟩) (cq_R_S hK hP [] rfl) rfl rfl hl.1 rfl (lv_room (Nat.le_of_ble_eq_true rfl)) dX6_set_14 ⟨Nat.le_refl _, Nat.le_refl _⟩) (fun u14 hd => ?_)
  refine rx_if_ne hx hb 26 dX6_set_17 rfl hd (fun hd => ?_) (fun hd => ?_)
  · refine lv_iload_n hx hb dX6_set_26 rfl (lv_at hl 3 rfl) ?_
    refine lv_iconst (v := 0) hx hb dX6_set_27 ki_0 ?_
    refine lv_aload_n hx hb dX6_set_28 rfl (lv_at hl 0 rfl) ?_
    refine rx_get hx hb hts fiX6_set_X6 hown hK hP 0 rfl rfl 1 (Nat.le_of_ble_eq_true rfl) fl_16 rfl rfl dX6_set_29 ?_
    refine lv_iload_n hx hb dX6_set_32 rfl (lv_at hl 2 rfl) ?_
    refine rx_roi hd (fun v hv => W.runV (As := [.int x2]) (rest := [.int (0 : Int32), .int x3]) hcf (c_X1_mostOfPerson l dC dI cI cJ cQ fu a_h  s_h x2 v hv) (cwV 1 hts gX6_set_X1_mostOfPerson rfl rfl rfl cd_X1_mostOfPerson ⟨(Nat.le_of_ble_eq_true rfl), (Nat.le_of_ble_eq_true rfl)⟩) (cq_R_V (q0 := 2) (ci := 0) hK hP [2, 3, 4, 5, 6, 7, 8, 9, 10, 11] rfl rfl rfl) rfl rfl hl.1 rfl (lv_room (Nat.le_of_ble_eq_true rfl)) dX6_set_33 ⟨Nat.le_refl _, Nat.le_refl _⟩) (fun u33 hd => ?_)
    refine rx_roi hd (fun v hv => W.runS (As := [.int x3, .int (0 : Int32), .int u33]) (rest := []) hcf (c_X6_isWithin l dC dI cI cJ cQ fu    x3 (0 : Int32) u33 v hv) (va_cwS 3 hts gX6_set_X6_isWithin rfl rfl rfl cd_X6_isWithin ⟨(Nat.le_of_ble_eq_true rfl), (Nat.le_of_ble_eq_true rfl)⟩) (cq_R_S hK hP [] rfl) rfl rfl hl.1 rfl (lv_room (Nat.le_of_ble_eq_true rfl)) dX6_set_36 ⟨Nat.le_refl _, Nat.le_refl _⟩) (fun u36 hd => ?_)
    refine rx_if_ne hx hb 48 dX6_set_39 rfl hd (fun hd => ?_) (fun hd => ?_)
    · refine lv_aload_n hx hb dX6_set_48 rfl (lv_at hl 0 rfl) ?_
      refine rx_get hx hb hts fiX6_set_X6 hown hK hP 0 rfl rfl 1 (Nat.le_of_ble_eq_true rfl) fl_16 rfl rfl dX6_set_49 ?_
      refine lv_iload_n hx hb dX6_set_52 rfl (lv_at hl 2 rfl) ?_
      refine rx_ror hd (fun v hv => W.runV (As := [.int x2]) (rest := []) hcf (c_X1_rowOfPeople l dC dI cI cJ cQ fu a_h  s_h x2 v hv) (cwV 1 hts gX6_set_X1_rowOfPeople rfl rfl rfl cd_X1_rowOfPeople ⟨(Nat.le_of_ble_eq_true rfl), (Nat.le_of_ble_eq_true rfl)⟩) (cq_R_V (q0 := 2) (ci := 0) hK hP [2, 3, 4, 5, 6, 7, 8, 9, 10, 11] rfl rfl rfl) rfl rfl hl.1 rfl (lv_room (Nat.le_of_ble_eq_true rfl)) dX6_set_53 ⟨Nat.le_refl _, Nat.le_refl _⟩) (fun u53 hd => ?_)
      refine g_sel (n := 6) hd (fun e hd1 => ?_) (fun hd1 => ?_)
      · clear hd
        subst e
        have hd := hd1
        clear hd1
        refine lv_astore (lv' := [(4, .ref (a_h 6)), (0, .ref (a_g 0)), (1, .int x1), (2, .int x2), (3, .int x3)]) hx hb dX6_set_56 hl (Nat.le_of_ble_eq_true rfl) rfl (fun ls hl => ?_)
        refine lv_aload hx hb dX6_set_58 (lv_at hl 0 rfl) ?_
        refine lv_iload_n hx hb dX6_set_60 rfl (lv_at hl 2 rfl) ?_
        refine rx_iald hx hb hK hP 8 0 rfl rfl hd dX6_set_61 (fun v61 hd => ?_)
        refine lv_istore (lv' := [(5, .int v61), (4, .ref (a_h 6)), (0, .ref (a_g 0)), (1, .int x1), (2, .int x2), (3, .int x3)]) hx hb dX6_set_62 hl (Nat.le_of_ble_eq_true rfl) rfl (fun ls hl => ?_)
        refine lv_aload hx hb dX6_set_64 (lv_at hl 1 rfl) ?_
        refine lv_iload_n hx hb dX6_set_66 rfl (lv_at hl 3 rfl) ?_
        refine lv_iload_n hx hb dX6_set_67 rfl (lv_at hl 5 rfl) ?_
        refine rx_iast (wGO a_g a_h a_q a_k a_p a_x a_s s_g ++ (wGT cI a_g s_o ++ (wP cI cJ a_h (puKinds s_h (Int32.toNatClampNeg x1) x3)))) hx hb hK hP hD hS 8 0 rfl rfl hd (g_setR (j := 7) rfl (g_setR (j := 6) rfl (wP_uKinds ..))) dX6_set_68 (fun hd H locs hP hD hS => ?_)
        refine lv_iload hx hb dX6_set_69 (lv_at hl 0 rfl) ?_
        exact rx_retUi (u := (s_o, (puKinds s_h (Int32.toNatClampNeg x1) x3))) (w1 := (fun u : (Nat → Int32) × PS => (wGO a_g a_h a_q a_k a_p a_x a_s s_g ++ (wGT cI a_g u.1 ++ (wP cI cJ a_h u.2))))) hx hb hr hlocks hd hK hP hD hS dX6_set_71
      clear hd
      have hd := hd1
      clear hd1
      refine g_sel (n := 7) hd (fun e hd1 => ?_) (fun hd1 => ?_)
      · clear hd
        subst e
        have hd := hd1
        clear hd1
        refine lv_astore (lv' := [(4, .ref (a_h 7)), (0, .ref (a_g 0)), (1, .int x1), (2, .int x2), (3, .int x3)]) hx hb dX6_set_56 hl (Nat.le_of_ble_eq_true rfl) rfl (fun ls hl => ?_)
        refine lv_aload hx hb dX6_set_58 (lv_at hl 0 rfl) ?_
        refine lv_iload_n hx hb dX6_set_60 rfl (lv_at hl 2 rfl) ?_
        refine rx_iald hx hb hK hP 9 0 rfl rfl hd dX6_set_61 (fun v61 hd => ?_)
        refine lv_istore (lv' := [(5, .int v61), (4, .ref (a_h 7)), (0, .ref (a_g 0)), (1, .int x1), (2, .int x2), (3, .int x3)]) hx hb dX6_set_62 hl (Nat.le_of_ble_eq_true rfl) rfl (fun ls hl => ?_)
        refine lv_aload hx hb dX6_set_64 (lv_at hl 1 rfl) ?_
        refine lv_iload_n hx hb dX6_set_66 rfl (lv_at hl 3 rfl) ?_
        refine lv_iload_n hx hb dX6_set_67 rfl (lv_at hl 5 rfl) ?_
        refine rx_iast (wGO a_g a_h a_q a_k a_p a_x a_s s_g ++ (wGT cI a_g s_o ++ (wP cI cJ a_h (puDeeds s_h (Int32.toNatClampNeg x1) x3)))) hx hb hK hP hD hS 9 0 rfl rfl hd (g_setR (j := 8) rfl (g_setR (j := 7) rfl (wP_uDeeds ..))) dX6_set_68 (fun hd H locs hP hD hS => ?_)
        refine lv_iload hx hb dX6_set_69 (lv_at hl 0 rfl) ?_
        exact rx_retUi (u := (s_o, (puDeeds s_h (Int32.toNatClampNeg x1) x3))) (w1 := (fun u : (Nat → Int32) × PS => (wGO a_g a_h a_q a_k a_p a_x a_s s_g ++ (wGT cI a_g u.1 ++ (wP cI cJ a_h u.2))))) hx hb hr hlocks hd hK hP hD hS dX6_set_71
      clear hd
      have hd := hd1
      clear hd1
      refine g_sel (n := 8) hd (fun e hd1 => ?_) (fun hd1 => ?_)
      · clear hd
        subst e
        have hd := hd1
        clear hd1
        refine lv_astore (lv' := [(4, .ref (a_h 8)), (0, .ref (a_g 0)), (1, .int x1), (2, .int x2), (3, .int x3)]) hx hb dX6_set_56 hl (Nat.le_of_ble_eq_true rfl) rfl (fun ls hl => ?_)
        refine lv_aload hx hb dX6_set_58 (lv_at hl 0 rfl) ?_
        refine lv_iload_n hx hb dX6_set_60 rfl (lv_at hl 2 rfl) ?_
        refine rx_iald hx hb hK hP 10 0 rfl rfl hd dX6_set_61 (fun v61 hd => ?_)
        refine lv_istore (lv' := [(5, .int v61), (4, .ref (a_h 8)), (0, .ref (a_g 0)), (1, .int x1), (2, .int x2), (3, .int x3)]) hx hb dX6_set_62 hl (Nat.le_of_ble_eq_true rfl) rfl (fun ls hl => ?_)
        refine lv_aload hx hb dX6_set_64 (lv_at hl 1 rfl) ?_
        refine lv_iload_n hx hb dX6_set_66 rfl (lv_at hl 3 rfl) ?_
        refine lv_iload_n hx hb dX6_set_67 rfl (lv_at hl 5 rfl) ?_
        refine rx_iast (wGO a_g a_h a_q a_k a_p a_x a_s s_g ++ (wGT cI a_g s_o ++ (wP cI cJ a_h (puSteps s_h (Int32.toNatClampNeg x1) x3)))) hx hb hK hP hD hS 10 0 rfl rfl hd (g_setR (j := 9) rfl (g_setR (j := 8) rfl (wP_uSteps ..))) dX6_set_68 (fun hd H locs hP hD hS => ?_)
        refine lv_iload hx hb dX6_set_69 (lv_at hl 0 rfl) ?_
        exact rx_retUi (u := (s_o, (puSteps s_h (Int32.toNatClampNeg x1) x3))) (w1 := (fun u : (Nat → Int32) × PS => (wGO a_g a_h a_q a_k a_p a_x a_s s_g ++ (wGT cI a_g u.1 ++ (wP cI cJ a_h u.2))))) hx hb hr hlocks hd hK hP hD hS dX6_set_71
      clear hd
      have hd := hd1
      clear hd1
      refine g_sel (n := 9) hd (fun e hd1 => ?_) (fun hd1 => ?_)
      · clear hd
        subst e
        have hd := hd1
        clear hd1
        refine lv_astore (lv' := [(4, .ref (a_h 9)), (0, .ref (a_g 0)), (1, .int x1), (2, .int x2), (3, .int x3)]) hx hb dX6_set_56 hl (Nat.le_of_ble_eq_true rfl) rfl (fun ls hl => ?_)
        refine lv_aload hx hb dX6_set_58 (lv_at hl 0 rfl) ?_
        refine lv_iload_n hx hb dX6_set_60 rfl (lv_at hl 2 rfl) ?_
        refine rx_iald hx hb hK hP 11 0 rfl rfl hd dX6_set_61 (fun v61 hd => ?_)
        refine lv_istore (lv' := [(5, .int v61), (4, .ref (a_h 9)), (0, .ref (a_g 0)), (1, .int x1), (2, .int x2), (3, .int x3)]) hx hb dX6_set_62 hl (Nat.le_of_ble_eq_true rfl) rfl (fun ls hl => ?_)
        refine lv_aload hx hb dX6_set_64 (lv_at hl 1 rfl) ?_
        refine lv_iload_n hx hb dX6_set_66 rfl (lv_at hl 3 rfl) ?_
        refine lv_iload_n hx hb dX6_set_67 rfl (lv_at hl 5 rfl) ?_
        refine rx_iast (wGO a_g a_h a_q a_k a_p a_x a_s s_g ++ (wGT cI a_g s_o ++ (wP cI cJ a_h (puAsked s_h (Int32.toNatClampNeg x1) x3)))) hx hb hK hP hD hS 11 0 rfl rfl hd (g_setR (j := 10) rfl (g_setR (j := 9) rfl (wP_uAsked ..))) dX6_set_68 (fun hd H locs hP hD hS => ?_)
        refine lv_iload hx hb dX6_set_69 (lv_at hl 0 rfl) ?_
        exact rx_retUi (u := (s_o, (puAsked s_h (Int32.toNatClampNeg x1) x3))) (w1 := (fun u : (Nat → Int32) × PS => (wGO a_g a_h a_q a_k a_p a_x a_s s_g ++ (wGT cI a_g u.1 ++ (wP cI cJ a_h u.2))))) hx hb hr hlocks hd hK hP hD hS dX6_set_71
      clear hd
      have hd := hd1
      clear hd1
      exact absurd hd (by intro h; cases h)
    refine lv_aload_n hx hb dX6_set_42 rfl (lv_at hl 0 rfl) ?_
    refine lv_iconst (v := 0) hx hb dX6_set_43 ki_0 ?_
    refine rx_upi (fun u => (wGO a_g a_h a_q a_k a_p a_x a_s s_g ++ (wGT cI a_g u ++ (wP cI cJ a_h s_h)))) hd hP hD hS hA ⟨[0, 1], [2, 3, 4, 5, 6, 7, 8, 9, 10, 11], [10, 11, 0, 1, 2, 3, 4, 5, 6, 7, 8, 9], wP cI cJ a_h s_h, rfl, rfl, rfl, by decide, rfl, fun _ => rfl⟩ (fun v hv => va_runV (As := [.int (0 : Int32)]) (rest := []) hcf (c_X6_finding l dC dI cI cJ cQ fu a_g a_h a_q a_k a_p a_x a_s _  s_g s_o (0 : Int32) v hv) (cwV 1 hts gX6_set_X6_finding rfl rfl rfl cd_X6_finding ⟨(Nat.le_of_ble_eq_true rfl), (Nat.le_of_ble_eq_true rfl)⟩) (cq_U_V (q0 := 0) (ci := 5) hK hP hD [0, 1] rfl rfl rfl rfl) rfl rfl hl.1 rfl (lv_room (Nat.le_of_ble_eq_true rfl)) dX6_set_44 ⟨Nat.le_refl _, Nat.le_refl _⟩) (fun u44 hd H locs hP hD hS => ?_)
    exact rx_retUi (u := (u44.2, s_h)) (w1 := (fun u : (Nat → Int32) × PS => (wGO a_g a_h a_q a_k a_p a_x a_s s_g ++ (wGT cI a_g u.1 ++ (wP cI cJ a_h u.2))))) hx hb hr hlocks hd hK hP hD hS dX6_set_47
  exact b20   s_o s_h hd _ _ _ hP hD hS (lv_sub hl [0] rfl)
theorem fiX6_turn_X1 : ∀ w ∈ wsX10, w ∈ wsX6_turn := mem_r _ [28, 29, 30, 31, 32, 33, 34, 35, 36, 37, 38, 39] rfl
theorem fiX6_turn_X6 : ∀ w ∈ wsX60, w ∈ wsX6_turn := mem_r _ [20, 21, 22, 23, 24, 25, 26, 27] rfl
set_option maxHeartbeats 8000000 in
set_option maxRecDepth 100000 in
theorem c_X6_turn (l : Launch) (dC : Nat → ClassId) (dI : Nat → Nat → Nat) (cI cJ cQ : ClassId) (fu : Nat) (a_g a_h a_q a_k a_p a_x a_s : Nat → Nat) (sz : Nat) (s_g : Int32) (s_o : (Nat → Int32)) (s_h : PS) (x1 : Int32) (x2 : Int32) (r : Int32 × (Nat → Int32) × PS) (hd : fX6_turn fu  s_g s_o s_h x1 x2 = some r) : mUi l yX6_turn wsX6_turn (gRm 1 21) [.ref (a_g 0), .int x1, .int x2] (dC, dI) vwCl (gty cI cJ cQ) (wGO a_g a_h a_q a_k a_p a_x a_s s_g ++ (wGT cI a_g s_o ++ (wP cI cJ a_h s_h))) sz (fun u : (Nat → Int32) × PS => (wGO a_g a_h a_q a_k a_p a_x a_s s_g ++ (wGT cI a_g u.1 ++ (wP cI cJ a_h u.2)))) r := by
  refine Met.ofW (cc := cX6_turn) (maxL := 4) (ret := (some .int)) (by decide) rfl ?_
  intro p e s m args below meth c s₁ B hml hv
  obtain ⟨hav, hsz, hP, hK, hD0⟩ := hv
  subst hsz
  have hD := hD0.self (sz := s.heap.size)
  generalize hAe : va_A (wGO a_g a_h a_q a_k a_p a_x a_s s_g ++ (wGT cI a_g s_o ++ (wP cI cJ a_h s_h))) s.heap.size = A at hD ⊢
  have hA : ∀ q : Nat, s.heap.size ≤ q → A q := fun q h => by rw [← hAe]; exact Or.inr h
  have hS : va_S A s.heap s.heap [] := va_S.rf
  have hx := B.exec
  have hb := B.bytes
  have hr := B.returns
  have hts := atoms_spec (ws := wsX6_turn) B.pre
  have hown : s.vm.findClass RX6 = some m.cls := findClass_of_methodNamed B.named
  have hlocks := B.notSynchronized
  have hcf : CallFix p m c cX6_turn 4 s args wsX6_turn RX6 := ⟨hx, hb, hml, hown, hts⟩
  have fl_16 := hts (.fieldLink RX6 16 "BucketGift" "here" "LBucketGift$Parish;") (List.mem_of_getElem? (i := 1) rfl)
  have fl_106 := hts (.fieldLink RX6 106 "BucketGift$Parish" "kinds" "[I") (List.mem_of_getElem? (i := 2) rfl)
  have hg : entryFrame m args 4 = entryFrame m ([.ref (a_g 0), .int x1, .int x2] : List Value).toArray 4 := by rw [hav]
  rw [hg, lg_entry_eq]
  have hl := lv_entry ([.ref (a_g 0), .int x1, .int x2]) (n := 4) (Nat.le_of_ble_eq_true rfl)
  generalize (lg_sl ([.ref (a_g 0), .int x1, .int x2]) ++ List.replicate (4 - (lg_sl ([.ref (a_g 0), .int x1, .int x2])).length) Slot.unset).toArray = ls at hl ⊢
  have hl : lv_has ls 4 [(0, .ref (a_g 0)), (1, .int x1), (2, .int x2)] := hl
  clear hg
  unfold fX6_turn at hd
  have b18 : ∀ (s_o : (Nat → Int32)) (s_h : PS), fX6_turn_b18 fu s_g   s_o s_h = some r → bk_U p l e (headSpec wsX6_turn (gRm 1 21)).room s m args below meth c (qUi below args s (dC, dI) vwCl (gty cI cJ cQ) A (fun u : (Nat → Int32) × PS => (wGO a_g a_h a_q a_k a_p a_x a_s s_g ++ (wGT cI a_g u.1 ++ (wP cI cJ a_h u.2)))) r) (dC, dI) vwCl A 4 (wGO a_g a_h a_q a_k a_p a_x a_s s_g ++ (wGT cI a_g s_o ++ (wP cI cJ a_h s_h))) 18 [(0, .ref (a_g 0))] [] := by
    intro s_o s_h hd
    intro H locs ls hP hD hS hl
    unfold fX6_turn_b18 at hd
    refine lv_aload_n hx hb dX6_turn_18 rfl (lv_at hl 0 rfl) ?_
    refine lv_iconst (v := 0) hx hb dX6_turn_19 ki_0 ?_
    refine rx_upi (fun u => (wGO a_g a_h a_q a_k a_p a_x a_s s_g ++ (wGT cI a_g u ++ (wP cI cJ a_h s_h)))) hd hP hD hS hA ⟨[0, 1], [2, 3, 4, 5, 6, 7, 8, 9, 10, 11], [10, 11, 0, 1, 2, 3, 4, 5, 6, 7, 8, 9], wP cI cJ a_h s_h, rfl, rfl, rfl, by decide, rfl, fun _ => rfl⟩ (fun v hv => va_runV (As := [.int (0 : Int32)]) (rest := []) hcf (c_X6_finding l dC dI cI cJ cQ fu a_g a_h a_q a_k a_p a_x a_s _  s_g s_o (0 : Int32) v hv) (cwV 1 hts gX6_turn_X6_finding rfl rfl rfl cd_X6_finding ⟨(Nat.le_of_ble_eq_true rfl), (Nat.le_of_ble_eq_true rfl)⟩) (cq_U_V (q0 := 0) (ci := 5) hK hP hD [0, 1] rfl rfl rfl rfl) rfl rfl hl.1 rfl (lv_room (Nat.le_of_ble_eq_true rfl)) dX6_turn_20 ⟨Nat.le_refl _, Nat.le_refl _⟩) (fun u20 hd H locs hP hD hS => ?_)
    exact rx_retUi (u := (u20.2, s_h)) (w1 := (fun u : (Nat → Int32) × PS => (wGO a_g a_h a_q a_k a_p a_x a_s s_g ++ (wGT cI a_g u.1 ++ (wP cI cJ a_h u.2))))) hx hb hr hlocks hd hK hP hD hS dX6_turn_23
  refine lv_aload_n hx hb dX6_turn_0 rfl (lv_at hl 0 rfl) ?_
  refine rx_get hx hb hts fiX6_turn_X6 hown hK hP 0 rfl rfl 1 (Nat.le_of_ble_eq_true rfl) fl_16 rfl rfl dX6_turn_1 ?_
  refine lv_iload_n hx hb dX6_turn_4 rfl (lv_at hl 1 rfl) ?_
  refine rx_roi hd (fun v hv => W.runV (As := [.int x1]) (rest := []) hcf (c_X1_isThere l dC dI cI cJ cQ fu a_h  s_h x1 v hv) (cwV 1 hts gX6_turn_X1_isThere rfl rfl rfl cd_X1_isThere ⟨(Nat.le_of_ble_eq_true rfl), (Nat.le_of_ble_eq_true rfl)⟩) (cq_R_V (q0 := 2) (ci := 0) hK hP [2, 3, 4, 5, 6, 7, 8, 9, 10, 11] rfl rfl rfl) rfl rfl hl.1 rfl (lv_room (Nat.le_of_ble_eq_true rfl)) dX6_turn_5 ⟨Nat.le_refl _, Nat.le_refl _⟩) (fun u5 hd => ?_)
  refine rx_if_eq hx hb 18 dX6_turn_8 rfl hd (fun hd => ?_) (fun hd => ?_)
  · exact b18   s_o s_h hd _ _ _ hP hD hS (lv_sub hl [0] rfl)
  refine lv_iload_n hx hb dX6_turn_11 rfl (lv_at hl 2 rfl) ?_
  refine rx_roi hd (fun v hv => W.runS (As := [.int x2]) (rest := []) hcf (c_X0_isKind l dC dI cI cJ cQ fu    x2 v hv) (va_cwS 1 hts gX6_turn_X0_isKind rfl rfl rfl cd_X0_isKind ⟨(Nat.le_of_ble_eq_true rfl), (Nat.le_of_ble_eq_true rfl)⟩) (cq_R_S hK hP [] rfl) rfl rfl hl.1 rfl (lv_room (Nat.le_of_ble_eq_true rfl)) dX6_turn_12 ⟨Nat.le_refl _, Nat.le_refl _⟩) (fun u12 hd => ?_)
  refine rx_if_ne hx hb 24 dX6_turn_15 rfl hd (fun hd => ?_) (fun hd => ?_)
  · refine lv_aload_n hx hb dX6_turn_24 rfl (lv_at hl 0 rfl) ?_
    refine rx_get hx hb hts fiX6_turn_X6 hown hK hP 0 rfl rfl 1 (Nat.le_of_ble_eq_true rfl) fl_16 rfl rfl dX6_turn_25 ?_
    refine rx_get hx hb hts fiX6_turn_X1 hown hK hP 2 rfl rfl 8 (Nat.le_of_ble_eq_true rfl) fl_106 rfl rfl dX6_turn_28 ?_
    refine lv_iload_n hx hb dX6_turn_31 rfl (lv_at hl 1 rfl) ?_
    refine rx_iald hx hb hK hP 8 0 rfl rfl hd dX6_turn_32 (fun v32 hd => ?_)
    refine lv_istore_n (lv' := [(3, .int v32), (0, .ref (a_g 0)), (1, .int x1), (2, .int x2)]) hx hb dX6_turn_33 rfl hl (Nat.le_of_ble_eq_true rfl) rfl (fun ls hl => ?_)
    refine lv_aload_n hx hb dX6_turn_34 rfl (lv_at hl 1 rfl) ?_
    refine rx_get hx hb hts fiX6_turn_X6 hown hK hP 0 rfl rfl 1 (Nat.le_of_ble_eq_true rfl) fl_16 rfl rfl dX6_turn_35 ?_
    refine rx_get hx hb hts fiX6_turn_X1 hown hK hP 2 rfl rfl 8 (Nat.le_of_ble_eq_true rfl) fl_106 rfl rfl dX6_turn_38 ?_
    refine lv_iload_n hx hb dX6_turn_41 rfl (lv_at hl 2 rfl) ?_
    refine lv_iload_n hx hb dX6_turn_42 rfl (lv_at hl 3 rfl) ?_
    refine rx_iast (wGO a_g a_h a_q a_k a_p a_x a_s s_g ++ (wGT cI a_g s_o ++ (wP cI cJ a_h (puKinds s_h (Int32.toNatClampNeg x1) x2)))) hx hb hK hP hD hS 8 0 rfl rfl hd (g_setR (j := 7) rfl (g_setR (j := 6) rfl (wP_uKinds ..))) dX6_turn_43 (fun hd H locs hP hD hS => ?_)
    refine lv_iload_n hx hb dX6_turn_44 rfl (lv_at hl 0 rfl) ?_
    exact rx_retUi (u := (s_o, (puKinds s_h (Int32.toNatClampNeg x1) x2))) (w1 := (fun u : (Nat → Int32) × PS => (wGO a_g a_h a_q a_k a_p a_x a_s s_g ++ (wGT cI a_g u.1 ++ (wP cI cJ a_h u.2))))) hx hb hr hlocks hd hK hP hD hS dX6_turn_45
  exact b18   s_o s_h hd _ _ _ hP hD hS (lv_sub hl [0] rfl)
theorem fiX6_as_X1 : ∀ w ∈ wsX10, w ∈ wsX6_as := mem_r _ [34, 35, 36, 37, 38, 39, 40, 41, 42, 43, 44, 45] rfl
theorem fiX6_as_X6 : ∀ w ∈ wsX60, w ∈ wsX6_as := mem_r _ [26, 27, 28, 29, 30, 31, 32, 33] rfl
set_option maxHeartbeats 8000000 in
set_option maxRecDepth 100000 in
theorem c_X6_as (l : Launch) (dC : Nat → ClassId) (dI : Nat → Nat → Nat) (cI cJ cQ : ClassId) (fu : Nat) (gz : GZ) (a_g a_h a_q a_k a_p a_x a_s : Nat → Nat) (sz : Nat) (s_g : Int32) (s_o : (Nat → Int32)) (s_h : PS) (x1 : Int32) (x2 : Int32) (r : Int32 × (Nat → Int32)) (hd : fX6_as fu  s_g s_o s_h x1 x2 = some r) : mUiG l yX6_as wsX6_as (gRm 2 43) [.ref (a_g 0), .int x1, .int x2] (dC, dI) vwCl (gty cI cJ cQ) (wGO a_g a_h a_q a_k a_p a_x a_s s_g ++ (wGT cI a_g s_o ++ (wP cI cJ a_h s_h))) sz gz (fun u : (Nat → Int32) => (wGO a_g a_h a_q a_k a_p a_x a_s s_g ++ (wGT cI a_g u ++ (wP cI cJ a_h s_h)))) r := by
  refine Met.ofW (cc := cX6_as) (maxL := 3) (ret := (some .int)) (by decide) rfl ?_
  intro p e s m args below meth c s₁ B hml hv
  obtain ⟨hav, ⟨hsz, hP, hK, hD0⟩, hG⟩ := hv
  subst hsz
  have hD := hD0.self (sz := s.heap.size)
  generalize hAe : va_A (wGO a_g a_h a_q a_k a_p a_x a_s s_g ++ (wGT cI a_g s_o ++ (wP cI cJ a_h s_h))) s.heap.size = A at hD hG ⊢
  have hA : ∀ q : Nat, s.heap.size ≤ q → A q := fun q h => by rw [← hAe]; exact Or.inr h
  have hS : va_S A s.heap s.heap [] := va_S.rf
  have hx := B.exec
  have hb := B.bytes
  have hr := B.returns
  have hts := atoms_spec (ws := wsX6_as) B.pre
  have hown : s.vm.findClass RX6 = some m.cls := findClass_of_methodNamed B.named
  have hlocks := B.notSynchronized
  have hcf : CallFix p m c cX6_as 3 s args wsX6_as RX6 := ⟨hx, hb, hml, hown, hts⟩
  have fl_16 := hts (.fieldLink RX6 16 "BucketGift" "here" "LBucketGift$Parish;") (List.mem_of_getElem? (i := 1) rfl)
  have fl_106 := hts (.fieldLink RX6 106 "BucketGift$Parish" "kinds" "[I") (List.mem_of_getElem? (i := 2) rfl)
  have fl_113 := hts (.fieldLink RX6 113 "BucketGift$Parish" "deeds" "[I") (List.mem_of_getElem? (i := 3) rfl)
  have hg : entryFrame m args 3 = entryFrame m ([.ref (a_g 0), .int x1, .int x2] : List Value).toArray 3 := by rw [hav]
  rw [hg, lg_entry_eq]
  have hl := lv_entry ([.ref (a_g 0), .int x1, .int x2]) (n := 3) (Nat.le_of_ble_eq_true rfl)
  generalize (lg_sl ([.ref (a_g 0), .int x1, .int x2]) ++ List.replicate (3 - (lg_sl ([.ref (a_g 0), .int x1, .int x2])).length) Slot.unset).toArray = ls at hl ⊢
  have hl : lv_has ls 3 [(0, .ref (a_g 0)), (1, .int x1), (2, .int x2)] := hl
  clear hg
  unfold fX6_as at hd
  have b18 : ∀ (s_o : (Nat → Int32)), fX6_as_b18 fu s_g s_h   s_o = some r → bk_U p l e (headSpec wsX6_as (gRm 2 43)).room s m args below meth c (qUi below args s (dC, dI) vwCl (gty cI cJ cQ) A (fun u : (Nat → Int32) => (wGO a_g a_h a_q a_k a_p a_x a_s s_g ++ (wGT cI a_g u ++ (wP cI cJ a_h s_h)))) r) (dC, dI) vwCl A 3 (wGO a_g a_h a_q a_k a_p a_x a_s s_g ++ (wGT cI a_g s_o ++ (wP cI cJ a_h s_h))) 18 [(0, .ref (a_g 0))] [] := by
    intro s_o hd
    intro H locs ls hP hD hS hl
    unfold fX6_as_b18 at hd
    refine lv_aload_n hx hb dX6_as_18 rfl (lv_at hl 0 rfl) ?_
    refine lv_iconst (v := 0) hx hb dX6_as_19 ki_0 ?_
    refine rx_upi (fun u => (wGO a_g a_h a_q a_k a_p a_x a_s s_g ++ (wGT cI a_g u ++ (wP cI cJ a_h s_h)))) hd hP hD hS hA ⟨[0, 1], [2, 3, 4, 5, 6, 7, 8, 9, 10, 11], [10, 11, 0, 1, 2, 3, 4, 5, 6, 7, 8, 9], wP cI cJ a_h s_h, rfl, rfl, rfl, by decide, rfl, fun _ => rfl⟩ (fun v hv => va_runV (As := [.int (0 : Int32)]) (rest := []) hcf (c_X6_finding l dC dI cI cJ cQ fu a_g a_h a_q a_k a_p a_x a_s _  s_g s_o (0 : Int32) v hv) (cwV 1 hts gX6_as_X6_finding rfl rfl rfl cd_X6_finding ⟨(Nat.le_of_ble_eq_true rfl), (Nat.le_of_ble_eq_true rfl)⟩) (cq_U_V (q0 := 0) (ci := 5) hK hP hD [0, 1] rfl rfl rfl rfl) rfl rfl hl.1 rfl (lv_room (Nat.le_of_ble_eq_true rfl)) dX6_as_20 ⟨Nat.le_refl _, Nat.le_refl _⟩) (fun u20 hd H locs hP hD hS => ?_)
    exact rx_retUi (u := u20.2) (w1 := (fun u : (Nat → Int32) => (wGO a_g a_h a_q a_k a_p a_x a_s s_g ++ (wGT cI a_g u ++ (wP cI cJ a_h s_h))))) hx hb hr hlocks hd hK hP hD hS dX6_as_23
  refine lv_aload_n hx hb dX6_as_0 rfl (lv_at hl 0 rfl) ?_
  refine rx_get hx hb hts fiX6_as_X6 hown hK hP 0 rfl rfl 1 (Nat.le_of_ble_eq_true rfl) fl_16 rfl rfl dX6_as_1 ?_
  refine lv_iload_n hx hb dX6_as_4 rfl (lv_at hl 1 rfl) ?_
  refine rx_roi hd (fun v hv => W.runV (As := [.int x1]) (rest := []) hcf (c_X1_isThere l dC dI cI cJ cQ fu a_h  s_h x1 v hv) (cwV 1 hts gX6_as_X1_isThere rfl rfl rfl cd_X1_isThere ⟨(Nat.le_of_ble_eq_true rfl), (Nat.le_of_ble_eq_true rfl)⟩) (cq_R_V (q0 := 2) (ci := 0) hK hP [2, 3, 4, 5, 6, 7, 8, 9, 10, 11] rfl rfl rfl) rfl rfl hl.1 rfl (lv_room (Nat.le_of_ble_eq_true rfl)) dX6_as_5 ⟨Nat.le_refl _, Nat.le_refl _⟩) (fun u5 hd => ?_)
  refine rx_if_eq hx hb 18 dX6_as_8 rfl hd (fun hd => ?_) (fun hd => ?_)
  · exact b18   s_o hd _ _ _ hP hD hS (lv_sub hl [0] rfl)
  refine lv_iload_n hx hb dX6_as_11 rfl (lv_at hl 2 rfl) ?_
  refine rx_roi hd (fun v hv => W.runS (As := [.int x2]) (rest := []) hcf (c_X0_isKind l dC dI cI cJ cQ fu    x2 v hv) (va_cwS 1 hts gX6_as_X0_isKind rfl rfl rfl cd_X0_isKind ⟨(Nat.le_of_ble_eq_true rfl), (Nat.le_of_ble_eq_true rfl)⟩) (cq_R_S hK hP [] rfl) rfl rfl hl.1 rfl (lv_room (Nat.le_of_ble_eq_true rfl)) dX6_as_12 ⟨Nat.le_refl _, Nat.le_refl _⟩) (fun u12 hd => ?_)
  refine rx_if_ne hx hb 24 dX6_as_15 rfl hd (fun hd => ?_) (fun hd => ?_)
  · refine lv_aload_n hx hb dX6_as_24 rfl (lv_at hl 0 rfl) ?_
    refine rx_get hx hb hts fiX6_as_X6 hown hK hP 0 rfl rfl 1 (Nat.le_of_ble_eq_true rfl) fl_16 rfl rfl dX6_as_25 ?_
    refine rx_get hx hb hts fiX6_as_X1 hown hK hP 2 rfl rfl 8 (Nat.le_of_ble_eq_true rfl) fl_106 rfl rfl dX6_as_28 ?_
    refine lv_iload_n hx hb dX6_as_31 rfl (lv_at hl 1 rfl) ?_
    refine rx_iald hx hb hK hP 8 0 rfl rfl hd dX6_as_32 (fun v32 hd => ?_)
    refine lv_iload_n hx hb dX6_as_33 rfl (lv_at hl 2 rfl) ?_
    refine rx_roi hd (fun v hv => W.runS (As := [.int v32, .int x2]) (rest := []) hcf (c_X0_isUnder l dC dI cI cJ cQ fu gz    v32 x2 v hv) (va_cwS 2 hts gX6_as_X0_isUnder rfl rfl rfl cd_X0_isUnder ⟨(Nat.le_of_ble_eq_true rfl), (Nat.le_of_ble_eq_true rfl)⟩) (cq_RG_S hG hS hK hP [] rfl) rfl rfl hl.1 rfl (lv_room (Nat.le_of_ble_eq_true rfl)) dX6_as_34 ⟨Nat.le_refl _, Nat.le_refl _⟩) (fun u34 hd => ?_)
    refine rx_if_ne hx hb 46 dX6_as_37 rfl hd (fun hd => ?_) (fun hd => ?_)
    · refine lv_aload_n hx hb dX6_as_46 rfl (lv_at hl 0 rfl) ?_
      refine rx_get hx hb hts fiX6_as_X6 hown hK hP 0 rfl rfl 1 (Nat.le_of_ble_eq_true rfl) fl_16 rfl rfl dX6_as_47 ?_
      refine rx_get hx hb hts fiX6_as_X1 hown hK hP 2 rfl rfl 9 (Nat.le_of_ble_eq_true rfl) fl_113 rfl rfl dX6_as_50 ?_
      refine lv_iload_n hx hb dX6_as_53 rfl (lv_at hl 1 rfl) ?_
      refine rx_iald hx hb hK hP 9 0 rfl rfl hd dX6_as_54 (fun v54 hd => ?_)
      exact rx_retUi (u := s_o) (w1 := (fun u : (Nat → Int32) => (wGO a_g a_h a_q a_k a_p a_x a_s s_g ++ (wGT cI a_g u ++ (wP cI cJ a_h s_h))))) hx hb hr hlocks hd hK hP hD hS dX6_as_55
    refine lv_aload_n hx hb dX6_as_40 rfl (lv_at hl 0 rfl) ?_
    refine lv_iconst (v := 2) hx hb dX6_as_41 ki_2 ?_
    refine rx_upi (fun u => (wGO a_g a_h a_q a_k a_p a_x a_s s_g ++ (wGT cI a_g u ++ (wP cI cJ a_h s_h)))) hd hP hD hS hA ⟨[0, 1], [2, 3, 4, 5, 6, 7, 8, 9, 10, 11], [10, 11, 0, 1, 2, 3, 4, 5, 6, 7, 8, 9], wP cI cJ a_h s_h, rfl, rfl, rfl, by decide, rfl, fun _ => rfl⟩ (fun v hv => va_runV (As := [.int (2 : Int32)]) (rest := []) hcf (c_X6_finding l dC dI cI cJ cQ fu a_g a_h a_q a_k a_p a_x a_s _  s_g s_o (2 : Int32) v hv) (cwV 1 hts gX6_as_X6_finding rfl rfl rfl cd_X6_finding ⟨(Nat.le_of_ble_eq_true rfl), (Nat.le_of_ble_eq_true rfl)⟩) (cq_U_V (q0 := 0) (ci := 5) hK hP hD [0, 1] rfl rfl rfl rfl) rfl rfl hl.1 rfl (lv_room (Nat.le_of_ble_eq_true rfl)) dX6_as_42 ⟨Nat.le_refl _, Nat.le_refl _⟩) (fun u42 hd H locs hP hD hS => ?_)
    exact rx_retUi (u := u42.2) (w1 := (fun u : (Nat → Int32) => (wGO a_g a_h a_q a_k a_p a_x a_s s_g ++ (wGT cI a_g u ++ (wP cI cJ a_h s_h))))) hx hb hr hlocks hd hK hP hD hS dX6_as_45
  exact b18   s_o hd _ _ _ hP hD hS (lv_sub hl [0] rfl)
theorem fiX6_does_X1 : ∀ w ∈ wsX10, w ∈ wsX6_does := mem_r _ [48, 49, 50, 51, 52, 53, 54, 55, 56, 57, 58, 59] rfl
theorem fiX6_does_X6 : ∀ w ∈ wsX60, w ∈ wsX6_does := mem_r _ [40, 41, 42, 43, 44, 45, 46, 47] rfl
set_option maxHeartbeats 8000000 in
set_option maxRecDepth 100000 in
theorem c_X6_does (l : Launch) (dC : Nat → ClassId) (dI : Nat → Nat → Nat) (cI cJ cQ : ClassId) (fu : Nat) (a_g a_h a_q a_k a_p a_x a_s : Nat → Nat) (sz : Nat) (s_g : Int32) (s_o : (Nat → Int32)) (s_h : PS) (x1 : Int32) (x2 : Int32) (r : Int32 × (Nat → Int32) × PS) (hd : fX6_does fu  s_g s_o s_h x1 x2 = some r) : mUi l yX6_does wsX6_does (gRm 3 65) [.ref (a_g 0), .int x1, .int x2] (dC, dI) vwCl (gty cI cJ cQ) (wGO a_g a_h a_q a_k a_p a_x a_s s_g ++ (wGT cI a_g s_o ++ (wP cI cJ a_h s_h))) sz (fun u : (Nat → Int32) × PS => (wGO a_g a_h a_q a_k a_p a_x a_s s_g ++ (wGT cI a_g u.1 ++ (wP cI cJ a_h u.2)))) r := by
  refine Met.ofW (cc := cX6_does) (maxL := 3) (ret := (some .int)) (by decide) rfl ?_
  intro p e s m args below meth c s₁ B hml hv
  obtain ⟨hav, hsz, hP, hK, hD0⟩ := hv
  subst hsz
  have hD := hD0.self (sz := s.heap.size)
  generalize hAe : va_A (wGO a_g a_h a_q a_k a_p a_x a_s s_g ++ (wGT cI a_g s_o ++ (wP cI cJ a_h s_h))) s.heap.size = A at hD ⊢
  have hA : ∀ q : Nat, s.heap.size ≤ q → A q := fun q h => by rw [← hAe]; exact Or.inr h
  have hS : va_S A s.heap s.heap [] := va_S.rf
  have hx := B.exec
  have hb := B.bytes
  have hr := B.returns
  have hts := atoms_spec (ws := wsX6_does) B.pre
  have hown : s.vm.findClass RX6 = some m.cls := findClass_of_methodNamed B.named
  have hlocks := B.notSynchronized
  have hcf : CallFix p m c cX6_does 3 s args wsX6_does RX6 := ⟨hx, hb, hml, hown, hts⟩
  have fl_16 := hts (.fieldLink RX6 16 "BucketGift" "here" "LBucketGift$Parish;") (List.mem_of_getElem? (i := 1) rfl)
  have fl_113 := hts (.fieldLink RX6 113 "BucketGift$Parish" "deeds" "[I") (List.mem_of_getElem? (i := 2) rfl)
  have hg : entryFrame m args 3 = entryFrame m ([.ref (a_g 0), .int x1, .int x2] : List Value).toArray 3 := by rw [hav]
  rw [hg, lg_entry_eq]
  have hl := lv_entry ([.ref (a_g 0), .int x1, .int x2]) (n := 3) (Nat.le_of_ble_eq_true rfl)
  generalize (lg_sl ([.ref (a_g 0), .int x1, .int x2]) ++ List.replicate (3 - (lg_sl ([.ref (a_g 0), .int x1, .int x2])).length) Slot.unset).toArray = ls at hl ⊢
  have hl : lv_has ls 3 [(0, .ref (a_g 0)), (1, .int x1), (2, .int x2)] := hl
  clear hg
  unfold fX6_does at hd
  have b21 : ∀ (s_o : (Nat → Int32)) (s_h : PS), fX6_does_b21 fu s_g   s_o s_h = some r → bk_U p l e (headSpec wsX6_does (gRm 3 65)).room s m args below meth c (qUi below args s (dC, dI) vwCl (gty cI cJ cQ) A (fun u : (Nat → Int32) × PS => (wGO a_g a_h a_q a_k a_p a_x a_s s_g ++ (wGT cI a_g u.1 ++ (wP cI cJ a_h u.2)))) r) (dC, dI) vwCl A 3 (wGO a_g a_h a_q a_k a_p a_x a_s s_g ++ (wGT cI a_g s_o ++ (wP cI cJ a_h s_h))) 21 [(0, .ref (a_g 0))] [] := by
    intro s_o s_h hd
    intro H locs ls hP hD hS hl
    unfold fX6_does_b21 at hd
    refine lv_aload_n hx hb dX6_does_21 rfl (lv_at hl 0 rfl) ?_
    refine lv_iconst (v := 0) hx hb dX6_does_22 ki_0 ?_
    refine rx_upi (fun u => (wGO a_g a_h a_q a_k a_p a_x a_s s_g ++ (wGT cI a_g u ++ (wP cI cJ a_h s_h)))) hd hP hD hS hA ⟨[0, 1], [2, 3, 4, 5, 6, 7, 8, 9, 10, 11], [10, 11, 0, 1, 2, 3, 4, 5, 6, 7, 8, 9], wP cI cJ a_h s_h, rfl, rfl, rfl, by decide, rfl, fun _ => rfl⟩ (fun v hv => va_runV (As := [.int (0 : Int32)]) (rest := []) hcf (c_X6_finding l dC dI cI cJ cQ fu a_g a_h a_q a_k a_p a_x a_s _  s_g s_o (0 : Int32) v hv) (cwV 1 hts gX6_does_X6_finding rfl rfl rfl cd_X6_finding ⟨(Nat.le_of_ble_eq_true rfl), (Nat.le_of_ble_eq_true rfl)⟩) (cq_U_V (q0 := 0) (ci := 5) hK hP hD [0, 1] rfl rfl rfl rfl) rfl rfl hl.1 rfl (lv_room (Nat.le_of_ble_eq_true rfl)) dX6_does_23 ⟨Nat.le_refl _, Nat.le_refl _⟩) (fun u23 hd H locs hP hD hS => ?_)
    exact rx_retUi (u := (u23.2, s_h)) (w1 := (fun u : (Nat → Int32) × PS => (wGO a_g a_h a_q a_k a_p a_x a_s s_g ++ (wGT cI a_g u.1 ++ (wP cI cJ a_h u.2))))) hx hb hr hlocks hd hK hP hD hS dX6_does_26
  refine lv_aload_n hx hb dX6_does_0 rfl (lv_at hl 0 rfl) ?_
  refine rx_get hx hb hts fiX6_does_X6 hown hK hP 0 rfl rfl 1 (Nat.le_of_ble_eq_true rfl) fl_16 rfl rfl dX6_does_1 ?_
  refine lv_iload_n hx hb dX6_does_4 rfl (lv_at hl 1 rfl) ?_
  refine rx_roi hd (fun v hv => W.runV (As := [.int x1]) (rest := []) hcf (c_X1_isThere l dC dI cI cJ cQ fu a_h  s_h x1 v hv) (cwV 1 hts gX6_does_X1_isThere rfl rfl rfl cd_X1_isThere ⟨(Nat.le_of_ble_eq_true rfl), (Nat.le_of_ble_eq_true rfl)⟩) (cq_R_V (q0 := 2) (ci := 0) hK hP [2, 3, 4, 5, 6, 7, 8, 9, 10, 11] rfl rfl rfl) rfl rfl hl.1 rfl (lv_room (Nat.le_of_ble_eq_true rfl)) dX6_does_5 ⟨Nat.le_refl _, Nat.le_refl _⟩) (fun u5 hd => ?_)
  refine rx_if_eq hx hb 21 dX6_does_8 rfl hd (fun hd => ?_) (fun hd => ?_)
  · exact b21   s_o s_h hd _ _ _ hP hD hS (lv_sub hl [0] rfl)
  refine lv_iload_n hx hb dX6_does_11 rfl (lv_at hl 2 rfl) ?_
  refine lv_iconst (v := 0) hx hb dX6_does_12 ki_0 ?_
  refine lv_bipush (v := 7) hx hb dX6_does_13 kb_7 ?_
  refine rx_roi hd (fun v hv => W.runS (As := [.int x2, .int (0 : Int32), .int (7 : Int32)]) (rest := []) hcf (c_X6_isWithin l dC dI cI cJ cQ fu    x2 (0 : Int32) (7 : Int32) v hv) (va_cwS 3 hts gX6_does_X6_isWithin rfl rfl rfl cd_X6_isWithin ⟨(Nat.le_of_ble_eq_true rfl), (Nat.le_of_ble_eq_true rfl)⟩) (cq_R_S hK hP [] rfl) rfl rfl hl.1 rfl (lv_room (Nat.le_of_ble_eq_true rfl)) dX6_does_15 ⟨Nat.le_refl _, Nat.le_refl _⟩) (fun u15 hd => ?_)
  refine rx_if_ne hx hb 27 dX6_does_18 rfl hd (fun hd => ?_) (fun hd => ?_)
  · refine lv_aload_n hx hb dX6_does_27 rfl (lv_at hl 0 rfl) ?_
    refine rx_get hx hb hts fiX6_does_X6 hown hK hP 0 rfl rfl 1 (Nat.le_of_ble_eq_true rfl) fl_16 rfl rfl dX6_does_28 ?_
    refine rx_get hx hb hts fiX6_does_X1 hown hK hP 2 rfl rfl 9 (Nat.le_of_ble_eq_true rfl) fl_113 rfl rfl dX6_does_31 ?_
    refine lv_iload_n hx hb dX6_does_34 rfl (lv_at hl 1 rfl) ?_
    refine lv_dup2_11 hx hb dX6_does_35 rfl rfl ?_
    refine rx_iald hx hb hK hP 9 0 rfl rfl hd dX6_does_36 (fun v36 hd => ?_)
    refine lv_iconst (v := 1) hx hb dX6_does_37 ki_1 ?_
    refine lv_iload_n hx hb dX6_does_38 rfl (lv_at hl 2 rfl) ?_
    refine lv_ishl hx hb dX6_does_39 ?_
    refine lv_ior hx hb dX6_does_40 ?_
    refine rx_iast (wGO a_g a_h a_q a_k a_p a_x a_s s_g ++ (wGT cI a_g s_o ++ (wP cI cJ a_h (puDeeds s_h (Int32.toNatClampNeg x1) (v36 ||| ((1 : Int32) <<< (x2 &&& (31 : Int32)))))))) hx hb hK hP hD hS 9 0 rfl rfl hd (g_setR (j := 8) rfl (g_setR (j := 7) rfl (wP_uDeeds ..))) dX6_does_41 (fun hd H locs hP hD hS => ?_)
    refine lv_aload_n hx hb dX6_does_42 rfl (lv_at hl 0 rfl) ?_
    refine rx_get hx hb hts fiX6_does_X6 hown hK hP 0 rfl rfl 1 (Nat.le_of_ble_eq_true rfl) fl_16 rfl rfl dX6_does_43 ?_
    refine lv_iload_n hx hb dX6_does_46 rfl (lv_at hl 1 rfl) ?_
    refine rx_roi hd (fun v hv => W.runV (As := [.int x1]) (rest := []) hcf (c_X1_deservedBy l dC dI cI cJ cQ fu a_h  (puDeeds s_h (Int32.toNatClampNeg x1) (v36 ||| ((1 : Int32) <<< (x2 &&& (31 : Int32))))) x1 v hv) (cwV 1 hts gX6_does_X1_deservedBy rfl rfl rfl cd_X1_deservedBy ⟨(Nat.le_of_ble_eq_true rfl), (Nat.le_of_ble_eq_true rfl)⟩) (cq_R_V (q0 := 2) (ci := 0) hK hP [2, 3, 4, 5, 6, 7, 8, 9, 10, 11] rfl rfl rfl) rfl rfl hl.1 rfl (lv_room (Nat.le_of_ble_eq_true rfl)) dX6_does_47 ⟨Nat.le_refl _, Nat.le_refl _⟩) (fun u47 hd => ?_)
    exact rx_retUi (u := (s_o, (puDeeds s_h (Int32.toNatClampNeg x1) (v36 ||| ((1 : Int32) <<< (x2 &&& (31 : Int32))))))) (w1 := (fun u : (Nat → Int32) × PS => (wGO a_g a_h a_q a_k a_p a_x a_s s_g ++ (wGT cI a_g u.1 ++ (wP cI cJ a_h u.2))))) hx hb hr hlocks hd hK hP hD hS dX6_does_50
  exact b21   s_o s_h hd _ _ _ hP hD hS (lv_sub hl [0] rfl)
theorem fiX6_pull_X6 : ∀ w ∈ wsX60, w ∈ wsX6_pull := mem_r _ [54, 55, 56, 57, 58, 59, 60, 61] rfl
set_option maxHeartbeats 8000000 in
set_option maxRecDepth 100000 in
theorem c_X6_pull (l : Launch) (dC : Nat → ClassId) (dI : Nat → Nat → Nat) (cI cJ cQ : ClassId) (fu : Nat) (a_g a_h a_q a_k a_p a_x a_s : Nat → Nat) (sz : Nat) (s_g : Int32) (s_o : (Nat → Int32)) (s_h : PS) (x1 : Int32) (x2 : Int32) (r : Int32 × (Nat → Int32) × PS) (hd : fX6_pull fu  s_g s_o s_h x1 x2 = some r) : mUi l yX6_pull wsX6_pull (gRm 4 92) [.ref (a_g 0), .int x1, .int x2] (dC, dI) vwCl (gty cI cJ cQ) (wGO a_g a_h a_q a_k a_p a_x a_s s_g ++ (wGT cI a_g s_o ++ (wP cI cJ a_h s_h))) sz (fun u : (Nat → Int32) × PS => (wGO a_g a_h a_q a_k a_p a_x a_s s_g ++ (wGT cI a_g u.1 ++ (wP cI cJ a_h u.2)))) r := by
  refine Met.ofW (cc := cX6_pull) (maxL := 3) (ret := (some .int)) (by decide) rfl ?_
  intro p e s m args below meth c s₁ B hml hv
  obtain ⟨hav, hsz, hP, hK, hD0⟩ := hv
  subst hsz
  have hD := hD0.self (sz := s.heap.size)
  generalize hAe : va_A (wGO a_g a_h a_q a_k a_p a_x a_s s_g ++ (wGT cI a_g s_o ++ (wP cI cJ a_h s_h))) s.heap.size = A at hD ⊢
  have hA : ∀ q : Nat, s.heap.size ≤ q → A q := fun q h => by rw [← hAe]; exact Or.inr h
  have hS : va_S A s.heap s.heap [] := va_S.rf
  have hx := B.exec
  have hb := B.bytes
  have hr := B.returns
  have hts := atoms_spec (ws := wsX6_pull) B.pre
  have hown : s.vm.findClass RX6 = some m.cls := findClass_of_methodNamed B.named
  have hlocks := B.notSynchronized
  have hcf : CallFix p m c cX6_pull 3 s args wsX6_pull RX6 := ⟨hx, hb, hml, hown, hts⟩
  have fl_16 := hts (.fieldLink RX6 16 "BucketGift" "here" "LBucketGift$Parish;") (List.mem_of_getElem? (i := 1) rfl)
  have hg : entryFrame m args 3 = entryFrame m ([.ref (a_g 0), .int x1, .int x2] : List Value).toArray 3 := by rw [hav]
  rw [hg, lg_entry_eq]
  have hl := lv_entry ([.ref (a_g 0), .int x1, .int x2]) (n := 3) (Nat.le_of_ble_eq_true rfl)
  generalize (lg_sl ([.ref (a_g 0), .int x1, .int x2]) ++ List.replicate (3 - (lg_sl ([.ref (a_g 0), .int x1, .int x2])).length) Slot.unset).toArray = ls at hl ⊢
  have hl : lv_has ls 3 [(0, .ref (a_g 0)), (1, .int x1), (2, .int x2)] := hl
  clear hg
  unfold fX6_pull at hd
  have b18 : ∀ (s_o : (Nat → Int32)) (s_h : PS), fX6_pull_b18 fu s_g   s_o s_h = some r → bk_U p l e (headSpec wsX6_pull (gRm 4 92)).room s m args below meth c (qUi below args s (dC, dI) vwCl (gty cI cJ cQ) A (fun u : (Nat → Int32) × PS => (wGO a_g a_h a_q a_k a_p a_x a_s s_g ++ (wGT cI a_g u.1 ++ (wP cI cJ a_h u.2)))) r) (dC, dI) vwCl A 3 (wGO a_g a_h a_q a_k a_p a_x a_s s_g ++ (wGT cI a_g s_o ++ (wP cI cJ a_h s_h))) 18 [(0, .ref (a_g 0))] [] := by
    intro s_o s_h hd
    intro H locs ls hP hD hS hl
    unfold fX6_pull_b18 at hd
    refine lv_aload_n hx hb dX6_pull_18 rfl (lv_at hl 0 rfl) ?_
    refine lv_iconst (v := 0) hx hb dX6_pull_19 ki_0 ?_
    refine rx_upi (fun u => (wGO a_g a_h a_q a_k a_p a_x a_s s_g ++ (wGT cI a_g u ++ (wP cI cJ a_h s_h)))) hd hP hD hS hA ⟨[0, 1], [2, 3, 4, 5, 6, 7, 8, 9, 10, 11], [10, 11, 0, 1, 2, 3, 4, 5, 6, 7, 8, 9], wP cI cJ a_h s_h, rfl, rfl, rfl, by decide, rfl, fun _ => rfl⟩ (fun v hv => va_runV (As := [.int (0 : Int32)]) (rest := []) hcf (c_X6_finding l dC dI cI cJ cQ fu a_g a_h a_q a_k a_p a_x a_s _  s_g s_o (0 : Int32) v hv) (cwV 1 hts gX6_pull_X6_finding rfl rfl rfl cd_X6_finding ⟨(Nat.le_of_ble_eq_true rfl), (Nat.le_of_ble_eq_true rfl)⟩) (cq_U_V (q0 := 0) (ci := 5) hK hP hD [0, 1] rfl rfl rfl rfl) rfl rfl hl.1 rfl (lv_room (Nat.le_of_ble_eq_true rfl)) dX6_pull_20 ⟨Nat.le_refl _, Nat.le_refl _⟩) (fun u20 hd H locs hP hD hS => ?_)
    exact rx_retUi (u := (u20.2, s_h)) (w1 := (fun u : (Nat → Int32) × PS => (wGO a_g a_h a_q a_k a_p a_x a_s s_g ++ (wGT cI a_g u.1 ++ (wP cI cJ a_h u.2))))) hx hb hr hlocks hd hK hP hD hS dX6_pull_23
  refine lv_aload_n hx hb dX6_pull_0 rfl (lv_at hl 0 rfl) ?_
  refine rx_get hx hb hts fiX6_pull_X6 hown hK hP 0 rfl rfl 1 (Nat.le_of_ble_eq_true rfl) fl_16 rfl rfl dX6_pull_1 ?_
  refine lv_iload_n hx hb dX6_pull_4 rfl (lv_at hl 1 rfl) ?_
  refine rx_roi hd (fun v hv => W.runV (As := [.int x1]) (rest := []) hcf (c_X1_isThere l dC dI cI cJ cQ fu a_h  s_h x1 v hv) (cwV 1 hts gX6_pull_X1_isThere rfl rfl rfl cd_X1_isThere ⟨(Nat.le_of_ble_eq_true rfl), (Nat.le_of_ble_eq_true rfl)⟩) (cq_R_V (q0 := 2) (ci := 0) hK hP [2, 3, 4, 5, 6, 7, 8, 9, 10, 11] rfl rfl rfl) rfl rfl hl.1 rfl (lv_room (Nat.le_of_ble_eq_true rfl)) dX6_pull_5 ⟨Nat.le_refl _, Nat.le_refl _⟩) (fun u5 hd => ?_)
  refine rx_if_eq hx hb 18 dX6_pull_8 rfl hd (fun hd => ?_) (fun hd => ?_)
  · exact b18   s_o s_h hd _ _ _ hP hD hS (lv_sub hl [0] rfl)
  refine lv_iload_n hx hb dX6_pull_11 rfl (lv_at hl 2 rfl) ?_
  refine rx_roi hd (fun v hv => W.runS (As := [.int x2]) (rest := []) hcf (c_X6_isFarm l dC dI cI cJ cQ fu    x2 v hv) (va_cwS 1 hts gX6_pull_X6_isFarm rfl rfl rfl cd_X6_isFarm ⟨(Nat.le_of_ble_eq_true rfl), (Nat.le_of_ble_eq_true rfl)⟩) (cq_R_S hK hP [] rfl) rfl rfl hl.1 rfl (lv_room (Nat.le_of_ble_eq_true rfl)) dX6_pull_12 ⟨Nat.le_refl _, Nat.le_refl _⟩) (fun u12 hd => ?_)
  refine rx_if_ne hx hb 24 dX6_pull_15 rfl hd (fun hd => ?_) (fun hd => ?_)
  · refine lv_aload_n hx hb dX6_pull_24 rfl (lv_at hl 0 rfl) ?_
    refine rx_get hx hb hts fiX6_pull_X6 hown hK hP 0 rfl rfl 1 (Nat.le_of_ble_eq_true rfl) fl_16 rfl rfl dX6_pull_25 ?_
    refine lv_iload_n hx hb dX6_pull_28 rfl (lv_at hl 1 rfl) ?_
    refine lv_iload_n hx hb dX6_pull_29 rfl (lv_at hl 2 rfl) ?_
    refine rx_upi (fun u => (wGO a_g a_h a_q a_k a_p a_x a_s s_g ++ (wGT cI a_g s_o ++ (wP cI cJ a_h u)))) hd hP hD hS hA ⟨[2, 3, 4, 5, 6, 7, 8, 9, 10, 11], [0, 1], [0, 1, 2, 3, 4, 5, 6, 7, 8, 9, 10, 11], wGO a_g a_h a_q a_k a_p a_x a_s s_g ++ (wGT cI a_g s_o), rfl, rfl, rfl, by decide, rfl, fun _ => rfl⟩ (fun v hv => va_runV (As := [.int x1, .int x2]) (rest := []) hcf (c_X1_draw l dC dI cI cJ cQ fu a_h _  s_h x1 x2 v hv) (cwV 2 hts gX6_pull_X1_draw rfl rfl rfl cd_X1_draw ⟨(Nat.le_of_ble_eq_true rfl), (Nat.le_of_ble_eq_true rfl)⟩) (cq_U_V (q0 := 2) (ci := 0) hK hP hD [2, 3, 4, 5, 6, 7, 8, 9, 10, 11] rfl rfl rfl rfl) rfl rfl hl.1 rfl (lv_room (Nat.le_of_ble_eq_true rfl)) dX6_pull_30 ⟨Nat.le_refl _, Nat.le_refl _⟩) (fun u30 hd H locs hP hD hS => ?_)
    exact rx_retUi (u := (s_o, u30.2)) (w1 := (fun u : (Nat → Int32) × PS => (wGO a_g a_h a_q a_k a_p a_x a_s s_g ++ (wGT cI a_g u.1 ++ (wP cI cJ a_h u.2))))) hx hb hr hlocks hd hK hP hD hS dX6_pull_33
  exact b18   s_o s_h hd _ _ _ hP hD hS (lv_sub hl [0] rfl)
theorem fiX6_days_X1 : ∀ w ∈ wsX10, w ∈ wsX6_days := mem_r _ [77, 78, 79, 80, 81, 82, 83, 84, 85, 86, 87, 88] rfl
theorem fiX6_days_X6 : ∀ w ∈ wsX60, w ∈ wsX6_days := mem_r _ [69, 70, 71, 72, 73, 74, 75, 76] rfl
set_option maxHeartbeats 8000000 in
set_option maxRecDepth 100000 in
theorem c_X6_days (l : Launch) (dC : Nat → ClassId) (dI : Nat → Nat → Nat) (cI cJ cQ : ClassId) (fu : Nat) (a_g a_h a_q a_k a_p a_x a_s : Nat → Nat) (sz : Nat) (s_g : Int32) (s_o : (Nat → Int32)) (s_h : PS) (x1 : Int32) (r : Int32 × (Nat → Int32) × PS) (hd : fX6_days fu  s_g s_o s_h x1 = some r) : mUi l yX6_days wsX6_days (gRm 5 113) [.ref (a_g 0), .int x1] (dC, dI) vwCl (gty cI cJ cQ) (wGO a_g a_h a_q a_k a_p a_x a_s s_g ++ (wGT cI a_g s_o ++ (wP cI cJ a_h s_h))) sz (fun u : (Nat → Int32) × PS => (wGO a_g a_h a_q a_k a_p a_x a_s s_g ++ (wGT cI a_g u.1 ++ (wP cI cJ a_h u.2)))) r := by
  refine Met.ofW (cc := cX6_days) (maxL := 3) (ret := (some .int)) (by decide) rfl ?_
  intro p e s m args below meth c s₁ B hml hv
  obtain ⟨hav, hsz, hP, hK, hD0⟩ := hv
  subst hsz
  have hD := hD0.self (sz := s.heap.size)
  generalize hAe : va_A (wGO a_g a_h a_q a_k a_p a_x a_s s_g ++ (wGT cI a_g s_o ++ (wP cI cJ a_h s_h))) s.heap.size = A at hD ⊢
  have hA : ∀ q : Nat, s.heap.size ≤ q → A q := fun q h => by rw [← hAe]; exact Or.inr h
  have hS : va_S A s.heap s.heap [] := va_S.rf
  have hx := B.exec
  have hb := B.bytes
  have hr := B.returns
  have hts := atoms_spec (ws := wsX6_days) B.pre
  have hown : s.vm.findClass RX6 = some m.cls := findClass_of_methodNamed B.named
  have hlocks := B.notSynchronized
  have hcf : CallFix p m c cX6_days 3 s args wsX6_days RX6 := ⟨hx, hb, hml, hown, hts⟩
  have fl_16 := hts (.fieldLink RX6 16 "BucketGift" "here" "LBucketGift$Parish;") (List.mem_of_getElem? (i := 1) rfl)
  have fl_120 := hts (.fieldLink RX6 120 "BucketGift$Parish" "day" "I") (List.mem_of_getElem? (i := 2) rfl)
  have fl_126 := hts (.fieldLink RX6 126 "BucketGift$Parish" "thirst" "[I") (List.mem_of_getElem? (i := 3) rfl)
  have hg : entryFrame m args 3 = entryFrame m ([.ref (a_g 0), .int x1] : List Value).toArray 3 := by rw [hav]
  rw [hg, lg_entry_eq]
  have hl := lv_entry ([.ref (a_g 0), .int x1]) (n := 3) (Nat.le_of_ble_eq_true rfl)
  generalize (lg_sl ([.ref (a_g 0), .int x1]) ++ List.replicate (3 - (lg_sl ([.ref (a_g 0), .int x1])).length) Slot.unset).toArray = ls at hl ⊢
  have hl : lv_has ls 3 [(0, .ref (a_g 0)), (1, .int x1)] := hl
  clear hg
  unfold fX6_days at hd
  have b39 : ∀ (x1 : Int32) (s_o : (Nat → Int32)) (s_h : PS) (x2 : Int32), fX6_days_b39 fu s_g   x1 s_o s_h x2 = some r → bk_U p l e (headSpec wsX6_days (gRm 5 113)).room s m args below meth c (qUi below args s (dC, dI) vwCl (gty cI cJ cQ) A (fun u : (Nat → Int32) × PS => (wGO a_g a_h a_q a_k a_p a_x a_s s_g ++ (wGT cI a_g u.1 ++ (wP cI cJ a_h u.2)))) r) (dC, dI) vwCl A 3 (wGO a_g a_h a_q a_k a_p a_x a_s s_g ++ (wGT cI a_g s_o ++ (wP cI cJ a_h s_h))) 39 [(0, .ref (a_g 0)), (1, .int x1), (2, .int x2)] [] := by
    intro x1
    have L : ∀ (n : Nat) (s_o : (Nat → Int32)) (s_h : PS) (x2 : Int32), g_lp (fun _ _ _ => none) (fX6_days_b39B fu s_g   x1) n s_o s_h x2 = some r → bk_U p l e (headSpec wsX6_days (gRm 5 113)).room s m args below meth c (qUi below args s (dC, dI) vwCl (gty cI cJ cQ) A (fun u : (Nat → Int32) × PS => (wGO a_g a_h a_q a_k a_p a_x a_s s_g ++ (wGT cI a_g u.1 ++ (wP cI cJ a_h u.2)))) r) (dC, dI) vwCl A 3 (wGO a_g a_h a_q a_k a_p a_x a_s s_g ++ (wGT cI a_g s_o ++ (wP cI cJ a_h s_h))) 39 [(0, .ref (a_g 0)), (1, .int x1), (2, .int x2)] [] := by
      intro n
      induction n with
      | zero => intro s_o s_h x2 hd; exact absurd hd (by intro h; cases h)
      | succ n k39 =>
        intro s_o s_h x2 hd
        intro H locs ls hP hD hS hl
        have hd : fX6_days_b39B fu s_g   x1 (g_lp (fun _ _ _ => none) (fX6_days_b39B fu s_g   x1) n) s_o s_h x2 = some r := hd
        unfold fX6_days_b39B at hd
        refine lv_iload_n hx hb dX6_days_39 rfl (lv_at hl 2 rfl) ?_
        refine lv_iload_n hx hb dX6_days_40 rfl (lv_at hl 1 rfl) ?_
        refine rx_icmp_ge hx hb 57 dX6_days_41 rfl hd (fun hd => ?_) (fun hd => ?_)
        · refine lv_aload_n hx hb dX6_days_57 rfl (lv_at hl 0 rfl) ?_
          refine rx_get hx hb hts fiX6_days_X6 hown hK hP 0 rfl rfl 1 (Nat.le_of_ble_eq_true rfl) fl_16 rfl rfl dX6_days_58 ?_
          refine rx_get hx hb hts fiX6_days_X1 hown hK hP 2 rfl rfl 2 (Nat.le_of_ble_eq_true rfl) fl_126 rfl rfl dX6_days_61 ?_
          refine rx_roi hd (fun v hv => W.runS (As := [.ref (a_h 3)]) (rest := []) hcf (c_X1_total l dC dI cI cJ cQ fu (a_h 3) 4  (pgThirst s_h)  v hv) (va_cwS 1 hts gX6_days_X1_total rfl rfl rfl cd_X1_total ⟨(Nat.le_of_ble_eq_true rfl), (Nat.le_of_ble_eq_true rfl)⟩) (cq_R_S hK hP [5] rfl) rfl rfl hl.1 rfl (lv_room (Nat.le_of_ble_eq_true rfl)) dX6_days_64 ⟨Nat.le_refl _, Nat.le_refl _⟩) (fun u64 hd => ?_)
          exact rx_retUi (u := (s_o, s_h)) (w1 := (fun u : (Nat → Int32) × PS => (wGO a_g a_h a_q a_k a_p a_x a_s s_g ++ (wGT cI a_g u.1 ++ (wP cI cJ a_h u.2))))) hx hb hr hlocks hd hK hP hD hS dX6_days_67
        refine lv_aload_n hx hb dX6_days_44 rfl (lv_at hl 0 rfl) ?_
        refine rx_get hx hb hts fiX6_days_X6 hown hK hP 0 rfl rfl 1 (Nat.le_of_ble_eq_true rfl) fl_16 rfl rfl dX6_days_45 ?_
        refine rx_upv (fun u => (wGO a_g a_h a_q a_k a_p a_x a_s s_g ++ (wGT cI a_g s_o ++ (wP cI cJ a_h u)))) hd hP hD hS hA ⟨[2, 3, 4, 5, 6, 7, 8, 9, 10, 11], [0, 1], [0, 1, 2, 3, 4, 5, 6, 7, 8, 9, 10, 11], wGO a_g a_h a_q a_k a_p a_x a_s s_g ++ (wGT cI a_g s_o), rfl, rfl, rfl, by decide, rfl, fun _ => rfl⟩ (fun v hv => va_runV (As := []) (rest := []) hcf (c_X1_passDay l dC dI cI cJ cQ fu a_h _  s_h  v hv) (cwV 0 hts gX6_days_X1_passDay rfl rfl rfl cd_X1_passDay ⟨(Nat.le_of_ble_eq_true rfl), (Nat.le_of_ble_eq_true rfl)⟩) (cq_U_V (q0 := 2) (ci := 0) hK hP hD [2, 3, 4, 5, 6, 7, 8, 9, 10, 11] rfl rfl rfl rfl) rfl rfl hl.1 rfl (lv_room (Nat.le_of_ble_eq_true rfl)) dX6_days_48 ⟨Nat.le_refl _, Nat.le_refl _⟩) (fun u48 hd H locs hP hD hS => ?_)
        refine rx_iinc (lv' := fun z => (2, .int z) :: [(0, .ref (a_g 0)), (1, .int x1)]) hx hb (j := 2) dX6_days_51 hl rfl ki_1 hd (Nat.le_of_ble_eq_true rfl) (fun _ => rfl) (fun x2_51 hd ls hl => ?_)
        refine lv_goto (tgt := 39) hx hb dX6_days_54 rfl ?_
        exact k39 s_o u48 x2_51 hd _ _ _ hP hD hS (lv_sub hl [1, 2, 0] rfl)
    exact fun s_o s_h x2 => L fu s_o s_h x2
  refine lv_iload_n hx hb dX6_days_0 rfl (lv_at hl 1 rfl) ?_
  refine lv_iconst (v := 1) hx hb dX6_days_1 ki_1 ?_
  refine lv_bipush (v := 60) hx hb dX6_days_2 kb_60 ?_
  refine rx_roi hd (fun v hv => W.runS (As := [.int x1, .int (1 : Int32), .int (60 : Int32)]) (rest := []) hcf (c_X6_isWithin l dC dI cI cJ cQ fu    x1 (1 : Int32) (60 : Int32) v hv) (va_cwS 3 hts gX6_days_X6_isWithin rfl rfl rfl cd_X6_isWithin ⟨(Nat.le_of_ble_eq_true rfl), (Nat.le_of_ble_eq_true rfl)⟩) (cq_R_S hK hP [] rfl) rfl rfl hl.1 rfl (lv_room (Nat.le_of_ble_eq_true rfl)) dX6_days_4 ⟨Nat.le_refl _, Nat.le_refl _⟩) (fun u4 hd => ?_)
  refine rx_if_ne hx hb 16 dX6_days_7 rfl hd (fun hd => ?_) (fun hd => ?_)
  · refine lv_aload_n hx hb dX6_days_16 rfl (lv_at hl 0 rfl) ?_
    refine rx_get hx hb hts fiX6_days_X6 hown hK hP 0 rfl rfl 1 (Nat.le_of_ble_eq_true rfl) fl_16 rfl rfl dX6_days_17 ?_
    refine rx_get hx hb hts fiX6_days_X1 hown hK hP 2 rfl rfl 5 (Nat.le_of_ble_eq_true rfl) fl_120 rfl rfl dX6_days_20 ?_
    refine lv_iload_n hx hb dX6_days_23 rfl (lv_at hl 1 rfl) ?_
    refine lv_iadd hx hb dX6_days_24 ?_
    refine lv_sipush (v := 9999) hx hb dX6_days_25 ks_9999 ?_
    refine rx_icmp_le hx hb 37 dX6_days_28 rfl hd (fun hd => ?_) (fun hd => ?_)
    · refine lv_iconst (v := 0) hx hb dX6_days_37 ki_0 ?_
      refine lv_istore_n (lv' := [(2, .int (0 : Int32)), (0, .ref (a_g 0)), (1, .int x1)]) hx hb dX6_days_38 rfl hl (Nat.le_of_ble_eq_true rfl) rfl (fun ls hl => ?_)
      exact b39   x1 s_o s_h (0 : Int32) hd _ _ _ hP hD hS (lv_sub hl [1, 2, 0] rfl)
    refine lv_aload_n hx hb dX6_days_31 rfl (lv_at hl 0 rfl) ?_
    refine lv_iconst (v := 4) hx hb dX6_days_32 ki_4 ?_
    refine rx_upi (fun u => (wGO a_g a_h a_q a_k a_p a_x a_s s_g ++ (wGT cI a_g u ++ (wP cI cJ a_h s_h)))) hd hP hD hS hA ⟨[0, 1], [2, 3, 4, 5, 6, 7, 8, 9, 10, 11], [10, 11, 0, 1, 2, 3, 4, 5, 6, 7, 8, 9], wP cI cJ a_h s_h, rfl, rfl, rfl, by decide, rfl, fun _ => rfl⟩ (fun v hv => va_runV (As := [.int (4 : Int32)]) (rest := []) hcf (c_X6_finding l dC dI cI cJ cQ fu a_g a_h a_q a_k a_p a_x a_s _  s_g s_o (4 : Int32) v hv) (cwV 1 hts gX6_days_X6_finding rfl rfl rfl cd_X6_finding ⟨(Nat.le_of_ble_eq_true rfl), (Nat.le_of_ble_eq_true rfl)⟩) (cq_U_V (q0 := 0) (ci := 5) hK hP hD [0, 1] rfl rfl rfl rfl) rfl rfl hl.1 rfl (lv_room (Nat.le_of_ble_eq_true rfl)) dX6_days_33 ⟨Nat.le_refl _, Nat.le_refl _⟩) (fun u33 hd H locs hP hD hS => ?_)
    exact rx_retUi (u := (u33.2, s_h)) (w1 := (fun u : (Nat → Int32) × PS => (wGO a_g a_h a_q a_k a_p a_x a_s s_g ++ (wGT cI a_g u.1 ++ (wP cI cJ a_h u.2))))) hx hb hr hlocks hd hK hP hD hS dX6_days_36
  refine lv_aload_n hx hb dX6_days_10 rfl (lv_at hl 0 rfl) ?_
  refine lv_iconst (v := 0) hx hb dX6_days_11 ki_0 ?_
  refine rx_upi (fun u => (wGO a_g a_h a_q a_k a_p a_x a_s s_g ++ (wGT cI a_g u ++ (wP cI cJ a_h s_h)))) hd hP hD hS hA ⟨[0, 1], [2, 3, 4, 5, 6, 7, 8, 9, 10, 11], [10, 11, 0, 1, 2, 3, 4, 5, 6, 7, 8, 9], wP cI cJ a_h s_h, rfl, rfl, rfl, by decide, rfl, fun _ => rfl⟩ (fun v hv => va_runV (As := [.int (0 : Int32)]) (rest := []) hcf (c_X6_finding l dC dI cI cJ cQ fu a_g a_h a_q a_k a_p a_x a_s _  s_g s_o (0 : Int32) v hv) (cwV 1 hts gX6_days_X6_finding rfl rfl rfl cd_X6_finding ⟨(Nat.le_of_ble_eq_true rfl), (Nat.le_of_ble_eq_true rfl)⟩) (cq_U_V (q0 := 0) (ci := 5) hK hP hD [0, 1] rfl rfl rfl rfl) rfl rfl hl.1 rfl (lv_room (Nat.le_of_ble_eq_true rfl)) dX6_days_12 ⟨Nat.le_refl _, Nat.le_refl _⟩) (fun u12 hd H locs hP hD hS => ?_)
  exact rx_retUi (u := (u12.2, s_h)) (w1 := (fun u : (Nat → Int32) × PS => (wGO a_g a_h a_q a_k a_p a_x a_s s_g ++ (wGT cI a_g u.1 ++ (wP cI cJ a_h u.2))))) hx hb hr hlocks hd hK hP hD hS dX6_days_15
theorem fiX6_now_X1 : ∀ w ∈ wsX10, w ∈ wsX6_now := mem_r _ [26, 27, 28, 29, 30, 31, 32, 33, 34, 35, 36, 37] rfl
theorem fiX6_now_X6 : ∀ w ∈ wsX60, w ∈ wsX6_now := mem_r _ [18, 19, 20, 21, 22, 23, 24, 25] rfl
set_option maxHeartbeats 8000000 in
set_option maxRecDepth 100000 in
theorem c_X6_now (l : Launch) (dC : Nat → ClassId) (dI : Nat → Nat → Nat) (cI cJ cQ : ClassId) (fu : Nat) (a_g a_h a_q a_k a_p a_x a_s : Nat → Nat) (sz : Nat) (s_g : Int32) (s_o : (Nat → Int32)) (s_h : PS) (x1 : Int32) (r : Int32 × (Nat → Int32)) (hd : fX6_now fu  s_g s_o s_h x1 = some r) : mUi l yX6_now wsX6_now (gRm 1 25) [.ref (a_g 0), .int x1] (dC, dI) vwCl (gty cI cJ cQ) (wGO a_g a_h a_q a_k a_p a_x a_s s_g ++ (wGT cI a_g s_o ++ (wP cI cJ a_h s_h))) sz (fun u : (Nat → Int32) => (wGO a_g a_h a_q a_k a_p a_x a_s s_g ++ (wGT cI a_g u ++ (wP cI cJ a_h s_h)))) r := by
  refine Met.ofW (cc := cX6_now) (maxL := 2) (ret := (some .int)) (by decide) rfl ?_
  intro p e s m args below meth c s₁ B hml hv
  obtain ⟨hav, hsz, hP, hK, hD0⟩ := hv
  subst hsz
  have hD := hD0.self (sz := s.heap.size)
  generalize hAe : va_A (wGO a_g a_h a_q a_k a_p a_x a_s s_g ++ (wGT cI a_g s_o ++ (wP cI cJ a_h s_h))) s.heap.size = A at hD ⊢
  have hA : ∀ q : Nat, s.heap.size ≤ q → A q := fun q h => by rw [← hAe]; exact Or.inr h
  have hS : va_S A s.heap s.heap [] := va_S.rf
  have hx := B.exec
  have hb := B.bytes
  have hr := B.returns
  have hts := atoms_spec (ws := wsX6_now) B.pre
  have hown : s.vm.findClass RX6 = some m.cls := findClass_of_methodNamed B.named
  have hlocks := B.notSynchronized
  have hcf : CallFix p m c cX6_now 2 s args wsX6_now RX6 := ⟨hx, hb, hml, hown, hts⟩
  have fl_16 := hts (.fieldLink RX6 16 "BucketGift" "here" "LBucketGift$Parish;") (List.mem_of_getElem? (i := 1) rfl)
  have fl_120 := hts (.fieldLink RX6 120 "BucketGift$Parish" "day" "I") (List.mem_of_getElem? (i := 2) rfl)
  have fl_76 := hts (.fieldLink RX6 76 "BucketGift$Parish" "water" "[I") (List.mem_of_getElem? (i := 3) rfl)
  have fl_133 := hts (.fieldLink RX6 133 "BucketGift$Parish" "store" "[I") (List.mem_of_getElem? (i := 4) rfl)
  have fl_126 := hts (.fieldLink RX6 126 "BucketGift$Parish" "thirst" "[I") (List.mem_of_getElem? (i := 5) rfl)
  have fl_136 := hts (.fieldLink RX6 136 "BucketGift$Parish" "need" "[I") (List.mem_of_getElem? (i := 6) rfl)
  have hg : entryFrame m args 2 = entryFrame m ([.ref (a_g 0), .int x1] : List Value).toArray 2 := by rw [hav]
  rw [hg, lg_entry_eq]
  have hl := lv_entry ([.ref (a_g 0), .int x1]) (n := 2) (Nat.le_of_ble_eq_true rfl)
  generalize (lg_sl ([.ref (a_g 0), .int x1]) ++ List.replicate (2 - (lg_sl ([.ref (a_g 0), .int x1])).length) Slot.unset).toArray = ls at hl ⊢
  have hl : lv_has ls 2 [(0, .ref (a_g 0)), (1, .int x1)] := hl
  clear hg
  unfold fX6_now at hd
  refine lv_iload_n hx hb dX6_now_0 rfl (lv_at hl 1 rfl) ?_
  refine rx_tab hx hb (0 : Int32) (0) rfl 44 dX6_now_1 (by decide) (by decide) rfl rfl hd (fun hd => ?_) (fun n_0 hd => ?_)
  · refine lv_aload_n hx hb dX6_now_44 rfl (lv_at hl 0 rfl) ?_
    refine rx_get hx hb hts fiX6_now_X6 hown hK hP 0 rfl rfl 1 (Nat.le_of_ble_eq_true rfl) fl_16 rfl rfl dX6_now_45 ?_
    refine rx_get hx hb hts fiX6_now_X1 hown hK hP 2 rfl rfl 5 (Nat.le_of_ble_eq_true rfl) fl_120 rfl rfl dX6_now_48 ?_
    exact rx_retUi (u := s_o) (w1 := (fun u : (Nat → Int32) => (wGO a_g a_h a_q a_k a_p a_x a_s s_g ++ (wGT cI a_g u ++ (wP cI cJ a_h s_h))))) hx hb hr hlocks hd hK hP hD hS dX6_now_51
  refine rx_tab hx hb (1 : Int32) (1) rfl 52 dX6_now_1 (by decide) (by decide) rfl rfl hd (fun hd => ?_) (fun n_1 hd => ?_)
  · refine lv_aload_n hx hb dX6_now_52 rfl (lv_at hl 0 rfl) ?_
    refine rx_get hx hb hts fiX6_now_X6 hown hK hP 0 rfl rfl 1 (Nat.le_of_ble_eq_true rfl) fl_16 rfl rfl dX6_now_53 ?_
    refine rx_get hx hb hts fiX6_now_X1 hown hK hP 2 rfl rfl 4 (Nat.le_of_ble_eq_true rfl) fl_76 rfl rfl dX6_now_56 ?_
    refine lv_iconst (v := 0) hx hb dX6_now_59 ki_0 ?_
    refine rx_iald hx hb hK hP 7 0 rfl rfl hd dX6_now_60 (fun v60 hd => ?_)
    exact rx_retUi (u := s_o) (w1 := (fun u : (Nat → Int32) => (wGO a_g a_h a_q a_k a_p a_x a_s s_g ++ (wGT cI a_g u ++ (wP cI cJ a_h s_h))))) hx hb hr hlocks hd hK hP hD hS dX6_now_61
  refine rx_tab hx hb (2 : Int32) (2) rfl 62 dX6_now_1 (by decide) (by decide) rfl rfl hd (fun hd => ?_) (fun n_2 hd => ?_)
  · refine lv_aload_n hx hb dX6_now_62 rfl (lv_at hl 0 rfl) ?_
    refine rx_get hx hb hts fiX6_now_X6 hown hK hP 0 rfl rfl 1 (Nat.le_of_ble_eq_true rfl) fl_16 rfl rfl dX6_now_63 ?_
    refine rx_get hx hb hts fiX6_now_X1 hown hK hP 2 rfl rfl 4 (Nat.le_of_ble_eq_true rfl) fl_76 rfl rfl dX6_now_66 ?_
    refine lv_iconst (v := 1) hx hb dX6_now_69 ki_1 ?_
    refine rx_iald hx hb hK hP 7 0 rfl rfl hd dX6_now_70 (fun v70 hd => ?_)
    exact rx_retUi (u := s_o) (w1 := (fun u : (Nat → Int32) => (wGO a_g a_h a_q a_k a_p a_x a_s s_g ++ (wGT cI a_g u ++ (wP cI cJ a_h s_h))))) hx hb hr hlocks hd hK hP hD hS dX6_now_71
  refine rx_tab hx hb (3 : Int32) (3) rfl 72 dX6_now_1 (by decide) (by decide) rfl rfl hd (fun hd => ?_) (fun n_3 hd => ?_)
  · refine lv_aload_n hx hb dX6_now_72 rfl (lv_at hl 0 rfl) ?_
    refine rx_get hx hb hts fiX6_now_X6 hown hK hP 0 rfl rfl 1 (Nat.le_of_ble_eq_true rfl) fl_16 rfl rfl dX6_now_73 ?_
    refine rx_get hx hb hts fiX6_now_X1 hown hK hP 2 rfl rfl 4 (Nat.le_of_ble_eq_true rfl) fl_76 rfl rfl dX6_now_76 ?_
    refine lv_iconst (v := 2) hx hb dX6_now_79 ki_2 ?_
    refine rx_iald hx hb hK hP 7 0 rfl rfl hd dX6_now_80 (fun v80 hd => ?_)
    exact rx_retUi (u := s_o) (w1 := (fun u : (Nat → Int32) => (wGO a_g a_h a_q a_k a_p a_x a_s s_g ++ (wGT cI a_g u ++ (wP cI cJ a_h s_h))))) hx hb hr hlocks hd hK hP hD hS dX6_now_81
  refine rx_tab hx hb (4 : Int32) (4) rfl 82 dX6_now_1 (by decide) (by decide) rfl rfl hd (fun hd => ?_) (fun n_4 hd => ?_)
  · refine lv_aload_n hx hb dX6_now_82 rfl (lv_at hl 0 rfl) ?_
    refine rx_get hx hb hts fiX6_now_X6 hown hK hP 0 rfl rfl 1 (Nat.le_of_ble_eq_true rfl) fl_16 rfl rfl dX6_now_83 ?_
    refine rx_get hx hb hts fiX6_now_X1 hown hK hP 2 rfl rfl 1 (Nat.le_of_ble_eq_true rfl) fl_133 rfl rfl dX6_now_86 ?_
    refine rx_roi hd (fun v hv => W.runS (As := [.ref (a_h 2)]) (rest := []) hcf (c_X1_total l dC dI cI cJ cQ fu (a_h 2) 4  (pgStore s_h)  v hv) (va_cwS 1 hts gX6_now_X1_total rfl rfl rfl cd_X1_total ⟨(Nat.le_of_ble_eq_true rfl), (Nat.le_of_ble_eq_true rfl)⟩) (cq_R_S hK hP [4] rfl) rfl rfl hl.1 rfl (lv_room (Nat.le_of_ble_eq_true rfl)) dX6_now_89 ⟨Nat.le_refl _, Nat.le_refl _⟩) (fun u89 hd => ?_)
    exact rx_retUi (u := s_o) (w1 := (fun u : (Nat → Int32) => (wGO a_g a_h a_q a_k a_p a_x a_s s_g ++ (wGT cI a_g u ++ (wP cI cJ a_h s_h))))) hx hb hr hlocks hd hK hP hD hS dX6_now_92
  refine rx_tab hx hb (5 : Int32) (5) rfl 93 dX6_now_1 (by decide) (by decide) rfl rfl hd (fun hd => ?_) (fun n_5 hd => ?_)
  · refine lv_aload_n hx hb dX6_now_93 rfl (lv_at hl 0 rfl) ?_
    refine rx_get hx hb hts fiX6_now_X6 hown hK hP 0 rfl rfl 1 (Nat.le_of_ble_eq_true rfl) fl_16 rfl rfl dX6_now_94 ?_
    refine rx_get hx hb hts fiX6_now_X1 hown hK hP 2 rfl rfl 2 (Nat.le_of_ble_eq_true rfl) fl_126 rfl rfl dX6_now_97 ?_
    refine rx_roi hd (fun v hv => W.runS (As := [.ref (a_h 3)]) (rest := []) hcf (c_X1_total l dC dI cI cJ cQ fu (a_h 3) 4  (pgThirst s_h)  v hv) (va_cwS 1 hts gX6_now_X1_total rfl rfl rfl cd_X1_total ⟨(Nat.le_of_ble_eq_true rfl), (Nat.le_of_ble_eq_true rfl)⟩) (cq_R_S hK hP [5] rfl) rfl rfl hl.1 rfl (lv_room (Nat.le_of_ble_eq_true rfl)) dX6_now_100 ⟨Nat.le_refl _, Nat.le_refl _⟩) (fun u100 hd => ?_)
    exact rx_retUi (u := s_o) (w1 := (fun u : (Nat → Int32) => (wGO a_g a_h a_q a_k a_p a_x a_s s_g ++ (wGT cI a_g u ++ (wP cI cJ a_h s_h))))) hx hb hr hlocks hd hK hP hD hS dX6_now_103
  refine rx_tab hx hb (6 : Int32) (6) rfl 104 dX6_now_1 (by decide) (by decide) rfl rfl hd (fun hd => ?_) (fun n_6 hd => ?_)
  · refine lv_aload_n hx hb dX6_now_104 rfl (lv_at hl 0 rfl) ?_
    refine rx_get hx hb hts fiX6_now_X6 hown hK hP 0 rfl rfl 1 (Nat.le_of_ble_eq_true rfl) fl_16 rfl rfl dX6_now_105 ?_
    refine rx_get hx hb hts fiX6_now_X1 hown hK hP 2 rfl rfl 0 (Nat.le_of_ble_eq_true rfl) fl_136 rfl rfl dX6_now_108 ?_
    refine rx_roi hd (fun v hv => W.runS (As := [.ref (a_h 1)]) (rest := []) hcf (c_X1_total l dC dI cI cJ cQ fu (a_h 1) 4  (pgNeed s_h)  v hv) (va_cwS 1 hts gX6_now_X1_total rfl rfl rfl cd_X1_total ⟨(Nat.le_of_ble_eq_true rfl), (Nat.le_of_ble_eq_true rfl)⟩) (cq_R_S hK hP [3] rfl) rfl rfl hl.1 rfl (lv_room (Nat.le_of_ble_eq_true rfl)) dX6_now_111 ⟨Nat.le_refl _, Nat.le_refl _⟩) (fun u111 hd => ?_)
    exact rx_retUi (u := s_o) (w1 := (fun u : (Nat → Int32) => (wGO a_g a_h a_q a_k a_p a_x a_s s_g ++ (wGT cI a_g u ++ (wP cI cJ a_h s_h))))) hx hb hr hlocks hd hK hP hD hS dX6_now_114
  refine lv_tableOut (tgt := 115) hx hb dX6_now_1 (by omega) rfl ?_
  refine lv_aload_n hx hb dX6_now_115 rfl (lv_at hl 0 rfl) ?_
  refine lv_iconst (v := 0) hx hb dX6_now_116 ki_0 ?_
  refine rx_upi (fun u => (wGO a_g a_h a_q a_k a_p a_x a_s s_g ++ (wGT cI a_g u ++ (wP cI cJ a_h s_h)))) hd hP hD hS hA ⟨[0, 1], [2, 3, 4, 5, 6, 7, 8, 9, 10, 11], [10, 11, 0, 1, 2, 3, 4, 5, 6, 7, 8, 9], wP cI cJ a_h s_h, rfl, rfl, rfl, by decide, rfl, fun _ => rfl⟩ (fun v hv => va_runV (As := [.int (0 : Int32)]) (rest := []) hcf (c_X6_finding l dC dI cI cJ cQ fu a_g a_h a_q a_k a_p a_x a_s _  s_g s_o (0 : Int32) v hv) (cwV 1 hts gX6_now_X6_finding rfl rfl rfl cd_X6_finding ⟨(Nat.le_of_ble_eq_true rfl), (Nat.le_of_ble_eq_true rfl)⟩) (cq_U_V (q0 := 0) (ci := 5) hK hP hD [0, 1] rfl rfl rfl rfl) rfl rfl hl.1 rfl (lv_room (Nat.le_of_ble_eq_true rfl)) dX6_now_117 ⟨Nat.le_refl _, Nat.le_refl _⟩) (fun u117 hd H locs hP hD hS => ?_)
  exact rx_retUi (u := u117.2) (w1 := (fun u : (Nat → Int32) => (wGO a_g a_h a_q a_k a_p a_x a_s s_g ++ (wGT cI a_g u ++ (wP cI cJ a_h s_h))))) hx hb hr hlocks hd hK hP hD hS dX6_now_120
theorem fiX6_on_X6 : ∀ w ∈ wsX60, w ∈ wsX6_on := mem_r _ [80, 81, 82, 83, 84, 85, 86, 87] rfl
set_option maxHeartbeats 8000000 in
set_option maxRecDepth 100000 in
theorem c_X6_on (l : Launch) (dC : Nat → ClassId) (dI : Nat → Nat → Nat) (cI cJ cQ : ClassId) (fu : Nat) (a_g a_h a_q a_k a_p a_x a_s : Nat → Nat) (sz : Nat) (s_g : Int32) (s_o : (Nat → Int32)) (s_h : PS) (s_q : PS) (x1 : Int32) (x2 : Int32) (x3 : Int32) (r : Int32 × (Nat → Int32) × PS) (hd : fX6_on fu  s_g s_o s_h s_q x1 x2 x3 = some r) : mUi l yX6_on wsX6_on (gRm 5 113) [.ref (a_g 0), .int x1, .int x2, .int x3] (dC, dI) vwCl (gty cI cJ cQ) (wGO a_g a_h a_q a_k a_p a_x a_s s_g ++ (wGT cI a_g s_o ++ (wP cI cJ a_h s_h ++ (wP cI cJ a_q s_q)))) sz (fun u : (Nat → Int32) × PS => (wGO a_g a_h a_q a_k a_p a_x a_s s_g ++ (wGT cI a_g u.1 ++ (wP cI cJ a_h s_h ++ (wP cI cJ a_q u.2))))) r := by
  refine Met.ofW (cc := cX6_on) (maxL := 5) (ret := (some .int)) (by decide) rfl ?_
  intro p e s m args below meth c s₁ B hml hv
  obtain ⟨hav, hsz, hP, hK, hD0⟩ := hv
  subst hsz
  have hD := hD0.self (sz := s.heap.size)
  generalize hAe : va_A (wGO a_g a_h a_q a_k a_p a_x a_s s_g ++ (wGT cI a_g s_o ++ (wP cI cJ a_h s_h ++ (wP cI cJ a_q s_q)))) s.heap.size = A at hD ⊢
  have hA : ∀ q : Nat, s.heap.size ≤ q → A q := fun q h => by rw [← hAe]; exact Or.inr h
  have hS : va_S A s.heap s.heap [] := va_S.rf
  have hx := B.exec
  have hb := B.bytes
  have hr := B.returns
  have hts := atoms_spec (ws := wsX6_on) B.pre
  have hown : s.vm.findClass RX6 = some m.cls := findClass_of_methodNamed B.named
  have hlocks := B.notSynchronized
  have hcf : CallFix p m c cX6_on 5 s args wsX6_on RX6 := ⟨hx, hb, hml, hown, hts⟩
  have fl_20 := hts (.fieldLink RX6 20 "BucketGift" "trial" "LBucketGift$Parish;") (List.mem_of_getElem? (i := 1) rfl)
  have fl_16 := hts (.fieldLink RX6 16 "BucketGift" "here" "LBucketGift$Parish;") (List.mem_of_getElem? (i := 2) rfl)
  have hg : entryFrame m args 5 = entryFrame m ([.ref (a_g 0), .int x1, .int x2, .int x3] : List Value).toArray 5 := by rw [hav]
  rw [hg, lg_entry_eq]
  have hl := lv_entry ([.ref (a_g 0), .int x1, .int x2, .int x3]) (n := 5) (Nat.le_of_ble_eq_true rfl)
  generalize (lg_sl ([.ref (a_g 0), .int x1, .int x2, .int x3]) ++ List.replicate (5 - (lg_sl ([.ref (a_g 0), .int x1, .int x2, .int x3])).length) Slot.unset).toArray = ls at hl ⊢
  have hl : lv_has ls 5 [(0, .ref (a_g 0)), (1, .int x1), (2, .int x2), (3, .int x3)] := hl
  clear hg
  unfold fX6_on at hd
  have b26 : ∀ (s_o : (Nat → Int32)) (s_q : PS), fX6_on_b26 fu s_g s_h   s_o s_q = some r → bk_U p l e (headSpec wsX6_on (gRm 5 113)).room s m args below meth c (qUi below args s (dC, dI) vwCl (gty cI cJ cQ) A (fun u : (Nat → Int32) × PS => (wGO a_g a_h a_q a_k a_p a_x a_s s_g ++ (wGT cI a_g u.1 ++ (wP cI cJ a_h s_h ++ (wP cI cJ a_q u.2))))) r) (dC, dI) vwCl A 5 (wGO a_g a_h a_q a_k a_p a_x a_s s_g ++ (wGT cI a_g s_o ++ (wP cI cJ a_h s_h ++ (wP cI cJ a_q s_q)))) 26 [(0, .ref (a_g 0))] [] := by
    intro s_o s_q hd
    intro H locs ls hP hD hS hl
    unfold fX6_on_b26 at hd
    refine lv_aload_n hx hb dX6_on_26 rfl (lv_at hl 0 rfl) ?_
    refine lv_iconst (v := 0) hx hb dX6_on_27 ki_0 ?_
    refine rx_upi (fun u => (wGO a_g a_h a_q a_k a_p a_x a_s s_g ++ (wGT cI a_g u ++ (wP cI cJ a_h s_h ++ (wP cI cJ a_q s_q))))) hd hP hD hS hA ⟨[0, 1], [2, 3, 4, 5, 6, 7, 8, 9, 10, 11, 12, 13, 14, 15, 16, 17, 18, 19, 20, 21], [20, 21, 0, 1, 2, 3, 4, 5, 6, 7, 8, 9, 10, 11, 12, 13, 14, 15, 16, 17, 18, 19], wP cI cJ a_h s_h ++ (wP cI cJ a_q s_q), rfl, rfl, rfl, by decide, rfl, fun _ => rfl⟩ (fun v hv => va_runV (As := [.int (0 : Int32)]) (rest := []) hcf (c_X6_finding l dC dI cI cJ cQ fu a_g a_h a_q a_k a_p a_x a_s _  s_g s_o (0 : Int32) v hv) (cwV 1 hts gX6_on_X6_finding rfl rfl rfl cd_X6_finding ⟨(Nat.le_of_ble_eq_true rfl), (Nat.le_of_ble_eq_true rfl)⟩) (cq_U_V (q0 := 0) (ci := 5) hK hP hD [0, 1] rfl rfl rfl rfl) rfl rfl hl.1 rfl (lv_room (Nat.le_of_ble_eq_true rfl)) dX6_on_28 ⟨Nat.le_refl _, Nat.le_refl _⟩) (fun u28 hd H locs hP hD hS => ?_)
    exact rx_retUi (u := (u28.2, s_q)) (w1 := (fun u : (Nat → Int32) × PS => (wGO a_g a_h a_q a_k a_p a_x a_s s_g ++ (wGT cI a_g u.1 ++ (wP cI cJ a_h s_h ++ (wP cI cJ a_q u.2)))))) hx hb hr hlocks hd hK hP hD hS dX6_on_31
  have b46 : ∀ (x1 : Int32) (x2 : Int32) (x3 : Int32) (s_o : (Nat → Int32)) (s_q : PS) (x4 : Int32), fX6_on_b46 fu s_g s_h   x1 x2 x3 s_o s_q x4 = some r → bk_U p l e (headSpec wsX6_on (gRm 5 113)).room s m args below meth c (qUi below args s (dC, dI) vwCl (gty cI cJ cQ) A (fun u : (Nat → Int32) × PS => (wGO a_g a_h a_q a_k a_p a_x a_s s_g ++ (wGT cI a_g u.1 ++ (wP cI cJ a_h s_h ++ (wP cI cJ a_q u.2))))) r) (dC, dI) vwCl A 5 (wGO a_g a_h a_q a_k a_p a_x a_s s_g ++ (wGT cI a_g s_o ++ (wP cI cJ a_h s_h ++ (wP cI cJ a_q s_q)))) 46 [(0, .ref (a_g 0)), (1, .int x1), (2, .int x2), (3, .int x3), (4, .int x4)] [] := by
    intro x1 x2 x3
    have L : ∀ (n : Nat) (s_o : (Nat → Int32)) (s_q : PS) (x4 : Int32), g_lp (fun _ _ _ => none) (fX6_on_b46B fu s_g s_h   x1 x2 x3) n s_o s_q x4 = some r → bk_U p l e (headSpec wsX6_on (gRm 5 113)).room s m args below meth c (qUi below args s (dC, dI) vwCl (gty cI cJ cQ) A (fun u : (Nat → Int32) × PS => (wGO a_g a_h a_q a_k a_p a_x a_s s_g ++ (wGT cI a_g u.1 ++ (wP cI cJ a_h s_h ++ (wP cI cJ a_q u.2))))) r) (dC, dI) vwCl A 5 (wGO a_g a_h a_q a_k a_p a_x a_s s_g ++ (wGT cI a_g s_o ++ (wP cI cJ a_h s_h ++ (wP cI cJ a_q s_q)))) 46 [(0, .ref (a_g 0)), (1, .int x1), (2, .int x2), (3, .int x3), (4, .int x4)] [] := by
      intro n
      induction n with
      | zero => intro s_o s_q x4 hd; exact absurd hd (by intro h; cases h)
      | succ n k46 =>
        intro s_o s_q x4 hd
        intro H locs ls hP hD hS hl
        have hd : fX6_on_b46B fu s_g s_h   x1 x2 x3 (g_lp (fun _ _ _ => none) (fX6_on_b46B fu s_g s_h   x1 x2 x3) n) s_o s_q x4 = some r := hd
        unfold fX6_on_b46B at hd
        refine lv_iload hx hb dX6_on_46 (lv_at hl 4 rfl) ?_
        refine lv_iload_n hx hb dX6_on_48 rfl (lv_at hl 2 rfl) ?_
        refine rx_icmp_ge hx hb 65 dX6_on_49 rfl hd (fun hd => ?_) (fun hd => ?_)
        · refine lv_aload_n hx hb dX6_on_65 rfl (lv_at hl 0 rfl) ?_
          refine rx_get hx hb hts fiX6_on_X6 hown hK hP 0 rfl rfl 2 (Nat.le_of_ble_eq_true rfl) fl_20 rfl rfl dX6_on_66 ?_
          refine lv_iload_n hx hb dX6_on_69 rfl (lv_at hl 3 rfl) ?_
          refine rx_ror hd (fun v hv => W.runV (As := [.int x3]) (rest := []) hcf (c_X1_rowOfFarms l dC dI cI cJ cQ fu a_q  s_q x3 v hv) (cwV 1 hts gX6_on_X1_rowOfFarms rfl rfl rfl cd_X1_rowOfFarms ⟨(Nat.le_of_ble_eq_true rfl), (Nat.le_of_ble_eq_true rfl)⟩) (cq_R_V (q0 := 12) (ci := 0) hK hP [12, 13, 14, 15, 16, 17, 18, 19, 20, 21] rfl rfl rfl) rfl rfl hl.1 rfl (lv_room (Nat.le_of_ble_eq_true rfl)) dX6_on_70 ⟨Nat.le_refl _, Nat.le_refl _⟩) (fun u70 hd => ?_)
          refine g_sel (n := 1) hd (fun e hd1 => ?_) (fun hd1 => ?_)
          · clear hd
            subst e
            have hd := hd1
            clear hd1
            refine lv_iload_n hx hb dX6_on_73 rfl (lv_at hl 1 rfl) ?_
            refine rx_iald hx hb hK hP 13 0 rfl rfl hd dX6_on_74 (fun v74 hd => ?_)
            exact rx_retUi (u := (s_o, s_q)) (w1 := (fun u : (Nat → Int32) × PS => (wGO a_g a_h a_q a_k a_p a_x a_s s_g ++ (wGT cI a_g u.1 ++ (wP cI cJ a_h s_h ++ (wP cI cJ a_q u.2)))))) hx hb hr hlocks hd hK hP hD hS dX6_on_75
          clear hd
          have hd := hd1
          clear hd1
          refine g_sel (n := 2) hd (fun e hd1 => ?_) (fun hd1 => ?_)
          · clear hd
            subst e
            have hd := hd1
            clear hd1
            refine lv_iload_n hx hb dX6_on_73 rfl (lv_at hl 1 rfl) ?_
            refine rx_iald hx hb hK hP 14 0 rfl rfl hd dX6_on_74 (fun v74 hd => ?_)
            exact rx_retUi (u := (s_o, s_q)) (w1 := (fun u : (Nat → Int32) × PS => (wGO a_g a_h a_q a_k a_p a_x a_s s_g ++ (wGT cI a_g u.1 ++ (wP cI cJ a_h s_h ++ (wP cI cJ a_q u.2)))))) hx hb hr hlocks hd hK hP hD hS dX6_on_75
          clear hd
          have hd := hd1
          clear hd1
          refine g_sel (n := 3) hd (fun e hd1 => ?_) (fun hd1 => ?_)
          · clear hd
            subst e
            have hd := hd1
            clear hd1
            refine lv_iload_n hx hb dX6_on_73 rfl (lv_at hl 1 rfl) ?_
            refine rx_iald hx hb hK hP 15 0 rfl rfl hd dX6_on_74 (fun v74 hd => ?_)
            exact rx_retUi (u := (s_o, s_q)) (w1 := (fun u : (Nat → Int32) × PS => (wGO a_g a_h a_q a_k a_p a_x a_s s_g ++ (wGT cI a_g u.1 ++ (wP cI cJ a_h s_h ++ (wP cI cJ a_q u.2)))))) hx hb hr hlocks hd hK hP hD hS dX6_on_75
          clear hd
          have hd := hd1
          clear hd1
          refine g_sel (n := 4) hd (fun e hd1 => ?_) (fun hd1 => ?_)
          · clear hd
            subst e
            have hd := hd1
            clear hd1
            refine lv_iload_n hx hb dX6_on_73 rfl (lv_at hl 1 rfl) ?_
            refine rx_iald hx hb hK hP 16 0 rfl rfl hd dX6_on_74 (fun v74 hd => ?_)
            exact rx_retUi (u := (s_o, s_q)) (w1 := (fun u : (Nat → Int32) × PS => (wGO a_g a_h a_q a_k a_p a_x a_s s_g ++ (wGT cI a_g u.1 ++ (wP cI cJ a_h s_h ++ (wP cI cJ a_q u.2)))))) hx hb hr hlocks hd hK hP hD hS dX6_on_75
          clear hd
          have hd := hd1
          clear hd1
          exact absurd hd (by intro h; cases h)
        refine lv_aload_n hx hb dX6_on_52 rfl (lv_at hl 0 rfl) ?_
        refine rx_get hx hb hts fiX6_on_X6 hown hK hP 0 rfl rfl 2 (Nat.le_of_ble_eq_true rfl) fl_20 rfl rfl dX6_on_53 ?_
        refine rx_upv (fun u => (wGO a_g a_h a_q a_k a_p a_x a_s s_g ++ (wGT cI a_g s_o ++ (wP cI cJ a_h s_h ++ (wP cI cJ a_q u))))) hd hP hD hS hA ⟨[12, 13, 14, 15, 16, 17, 18, 19, 20, 21], [0, 1, 2, 3, 4, 5, 6, 7, 8, 9, 10, 11], [0, 1, 2, 3, 4, 5, 6, 7, 8, 9, 10, 11, 12, 13, 14, 15, 16, 17, 18, 19, 20, 21], wGO a_g a_h a_q a_k a_p a_x a_s s_g ++ (wGT cI a_g s_o ++ (wP cI cJ a_h s_h)), rfl, rfl, rfl, by decide, rfl, fun _ => rfl⟩ (fun v hv => va_runV (As := []) (rest := []) hcf (c_X1_passDay l dC dI cI cJ cQ fu a_q _  s_q  v hv) (cwV 0 hts gX6_on_X1_passDay rfl rfl rfl cd_X1_passDay ⟨(Nat.le_of_ble_eq_true rfl), (Nat.le_of_ble_eq_true rfl)⟩) (cq_U_V (q0 := 12) (ci := 0) hK hP hD [12, 13, 14, 15, 16, 17, 18, 19, 20, 21] rfl rfl rfl rfl) rfl rfl hl.1 rfl (lv_room (Nat.le_of_ble_eq_true rfl)) dX6_on_56 ⟨Nat.le_refl _, Nat.le_refl _⟩) (fun u56 hd H locs hP hD hS => ?_)
        refine rx_iinc (lv' := fun z => (4, .int z) :: [(0, .ref (a_g 0)), (1, .int x1), (2, .int x2), (3, .int x3)]) hx hb (j := 4) dX6_on_59 hl rfl ki_1 hd (Nat.le_of_ble_eq_true rfl) (fun _ => rfl) (fun x4_59 hd ls hl => ?_)
        refine lv_goto (tgt := 46) hx hb dX6_on_62 rfl ?_
        exact k46 s_o u56 x4_59 hd _ _ _ hP hD hS (lv_sub hl [1, 2, 3, 4, 0] rfl)
    exact fun s_o s_q x4 => L fu s_o s_q x4
  refine lv_iload_n hx hb dX6_on_0 rfl (lv_at hl 1 rfl) ?_
  refine rx_roi hd (fun v hv => W.runS (As := [.int x1]) (rest := []) hcf (c_X6_isFarm l dC dI cI cJ cQ fu    x1 v hv) (va_cwS 1 hts gX6_on_X6_isFarm rfl rfl rfl cd_X6_isFarm ⟨(Nat.le_of_ble_eq_true rfl), (Nat.le_of_ble_eq_true rfl)⟩) (cq_R_S hK hP [] rfl) rfl rfl hl.1 rfl (lv_room (Nat.le_of_ble_eq_true rfl)) dX6_on_1 ⟨Nat.le_refl _, Nat.le_refl _⟩) (fun u1 hd => ?_)
  refine rx_if_eq hx hb 26 dX6_on_4 rfl hd (fun hd => ?_) (fun hd => ?_)
  · exact b26   s_o s_q hd _ _ _ hP hD hS (lv_sub hl [0] rfl)
  refine lv_iload_n hx hb dX6_on_7 rfl (lv_at hl 2 rfl) ?_
  refine lv_iconst (v := 0) hx hb dX6_on_8 ki_0 ?_
  refine lv_bipush (v := 60) hx hb dX6_on_9 kb_60 ?_
  refine rx_roi hd (fun v hv => W.runS (As := [.int x2, .int (0 : Int32), .int (60 : Int32)]) (rest := []) hcf (c_X6_isWithin l dC dI cI cJ cQ fu    x2 (0 : Int32) (60 : Int32) v hv) (va_cwS 3 hts gX6_on_X6_isWithin rfl rfl rfl cd_X6_isWithin ⟨(Nat.le_of_ble_eq_true rfl), (Nat.le_of_ble_eq_true rfl)⟩) (cq_R_S hK hP [] rfl) rfl rfl hl.1 rfl (lv_room (Nat.le_of_ble_eq_true rfl)) dX6_on_11 ⟨Nat.le_refl _, Nat.le_refl _⟩) (fun u11 hd => ?_)
  refine rx_if_eq hx hb 26 dX6_on_14 rfl hd (fun hd => ?_) (fun hd => ?_)
  · exact b26   s_o s_q hd _ _ _ hP hD hS (lv_sub hl [0] rfl)
  refine lv_iload_n hx hb dX6_on_17 rfl (lv_at hl 3 rfl) ?_
  refine lv_iconst (v := 1) hx hb dX6_on_18 ki_1 ?_
  refine lv_iconst (v := 2) hx hb dX6_on_19 ki_2 ?_
  refine rx_roi hd (fun v hv => W.runS (As := [.int x3, .int (1 : Int32), .int (2 : Int32)]) (rest := []) hcf (c_X6_isWithin l dC dI cI cJ cQ fu    x3 (1 : Int32) (2 : Int32) v hv) (va_cwS 3 hts gX6_on_X6_isWithin rfl rfl rfl cd_X6_isWithin ⟨(Nat.le_of_ble_eq_true rfl), (Nat.le_of_ble_eq_true rfl)⟩) (cq_R_S hK hP [] rfl) rfl rfl hl.1 rfl (lv_room (Nat.le_of_ble_eq_true rfl)) dX6_on_20 ⟨Nat.le_refl _, Nat.le_refl _⟩) (fun u20 hd => ?_)
  refine rx_if_ne hx hb 32 dX6_on_23 rfl hd (fun hd => ?_) (fun hd => ?_)
  · refine lv_aload_n hx hb dX6_on_32 rfl (lv_at hl 0 rfl) ?_
    refine rx_get hx hb hts fiX6_on_X6 hown hK hP 0 rfl rfl 2 (Nat.le_of_ble_eq_true rfl) fl_20 rfl rfl dX6_on_33 ?_
    refine lv_aload_n hx hb dX6_on_36 rfl (lv_at hl 0 rfl) ?_
    refine rx_get hx hb hts fiX6_on_X6 hown hK hP 0 rfl rfl 1 (Nat.le_of_ble_eq_true rfl) fl_16 rfl rfl dX6_on_37 ?_
    refine rx_upv (fun u => (wGO a_g a_h a_q a_k a_p a_x a_s s_g ++ (wGT cI a_g s_o ++ (wP cI cJ a_h s_h ++ (wP cI cJ a_q u))))) hd hP hD hS hA ⟨[12, 13, 14, 15, 16, 17, 18, 19, 20, 21, 2, 3, 4, 5, 6, 7, 8, 9, 10, 11], [0, 1], [0, 1, 12, 13, 14, 15, 16, 17, 18, 19, 20, 21, 2, 3, 4, 5, 6, 7, 8, 9, 10, 11], wGO a_g a_h a_q a_k a_p a_x a_s s_g ++ (wGT cI a_g s_o), rfl, rfl, rfl, by decide, rfl, fun _ => rfl⟩ (fun v hv => va_runV (As := [.ref (a_h 0)]) (rest := []) hcf (c_X1_become l dC dI cI cJ cQ fu a_q a_h _  s_q s_h  v hv) (cwV 1 hts gX6_on_X1_become rfl rfl rfl cd_X1_become ⟨(Nat.le_of_ble_eq_true rfl), (Nat.le_of_ble_eq_true rfl)⟩) (cq_U_V (q0 := 12) (ci := 0) hK hP hD [12, 13, 14, 15, 16, 17, 18, 19, 20, 21, 2, 3, 4, 5, 6, 7, 8, 9, 10, 11] rfl rfl rfl rfl) rfl rfl hl.1 rfl (lv_room (Nat.le_of_ble_eq_true rfl)) dX6_on_40 ⟨Nat.le_refl _, Nat.le_refl _⟩) (fun u40 hd H locs hP hD hS => ?_)
    refine lv_iconst (v := 0) hx hb dX6_on_43 ki_0 ?_
    refine lv_istore (lv' := [(4, .int (0 : Int32)), (0, .ref (a_g 0)), (1, .int x1), (2, .int x2), (3, .int x3)]) hx hb dX6_on_44 hl (Nat.le_of_ble_eq_true rfl) rfl (fun ls hl => ?_)
    exact b46   x1 x2 x3 s_o u40 (0 : Int32) hd _ _ _ hP hD hS (lv_sub hl [1, 2, 3, 4, 0] rfl)
  exact b26   s_o s_q hd _ _ _ hP hD hS (lv_sub hl [0] rfl)
theorem fiX6_dry_X6 : ∀ w ∈ wsX60, w ∈ wsX6_dry := mem_r _ [80, 81, 82, 83, 84, 85, 86, 87] rfl
set_option maxHeartbeats 8000000 in
set_option maxRecDepth 100000 in
theorem c_X6_dry (l : Launch) (dC : Nat → ClassId) (dI : Nat → Nat → Nat) (cI cJ cQ : ClassId) (fu : Nat) (a_g a_h a_q a_k a_p a_x a_s : Nat → Nat) (sz : Nat) (s_g : Int32) (s_o : (Nat → Int32)) (s_h : PS) (s_q : PS) (x1 : Int32) (r : Int32 × (Nat → Int32) × PS) (hd : fX6_dry fu  s_g s_o s_h s_q x1 = some r) : mUi l yX6_dry wsX6_dry (gRm 5 113) [.ref (a_g 0), .int x1] (dC, dI) vwCl (gty cI cJ cQ) (wGO a_g a_h a_q a_k a_p a_x a_s s_g ++ (wGT cI a_g s_o ++ (wP cI cJ a_h s_h ++ (wP cI cJ a_q s_q)))) sz (fun u : (Nat → Int32) × PS => (wGO a_g a_h a_q a_k a_p a_x a_s s_g ++ (wGT cI a_g u.1 ++ (wP cI cJ a_h s_h ++ (wP cI cJ a_q u.2))))) r := by
  refine Met.ofW (cc := cX6_dry) (maxL := 3) (ret := (some .int)) (by decide) rfl ?_
  intro p e s m args below meth c s₁ B hml hv
  obtain ⟨hav, hsz, hP, hK, hD0⟩ := hv
  subst hsz
  have hD := hD0.self (sz := s.heap.size)
  generalize hAe : va_A (wGO a_g a_h a_q a_k a_p a_x a_s s_g ++ (wGT cI a_g s_o ++ (wP cI cJ a_h s_h ++ (wP cI cJ a_q s_q)))) s.heap.size = A at hD ⊢
  have hA : ∀ q : Nat, s.heap.size ≤ q → A q := fun q h => by rw [← hAe]; exact Or.inr h
  have hS : va_S A s.heap s.heap [] := va_S.rf
  have hx := B.exec
  have hb := B.bytes
  have hr := B.returns
  have hts := atoms_spec (ws := wsX6_dry) B.pre
  have hown : s.vm.findClass RX6 = some m.cls := findClass_of_methodNamed B.named
  have hlocks := B.notSynchronized
  have hcf : CallFix p m c cX6_dry 3 s args wsX6_dry RX6 := ⟨hx, hb, hml, hown, hts⟩
  have fl_20 := hts (.fieldLink RX6 20 "BucketGift" "trial" "LBucketGift$Parish;") (List.mem_of_getElem? (i := 1) rfl)
  have fl_16 := hts (.fieldLink RX6 16 "BucketGift" "here" "LBucketGift$Parish;") (List.mem_of_getElem? (i := 2) rfl)
  have hg : entryFrame m args 3 = entryFrame m ([.ref (a_g 0), .int x1] : List Value).toArray 3 := by rw [hav]
  rw [hg, lg_entry_eq]
  have hl := lv_entry ([.ref (a_g 0), .int x1]) (n := 3) (Nat.le_of_ble_eq_true rfl)
  generalize (lg_sl ([.ref (a_g 0), .int x1]) ++ List.replicate (3 - (lg_sl ([.ref (a_g 0), .int x1])).length) Slot.unset).toArray = ls at hl ⊢
  have hl : lv_has ls 3 [(0, .ref (a_g 0)), (1, .int x1)] := hl
  clear hg
  unfold fX6_dry at hd
  have b26 : ∀ (x1 : Int32) (s_o : (Nat → Int32)) (s_q : PS) (x2 : Int32), fX6_dry_b26 fu s_g s_h   x1 s_o s_q x2 = some r → bk_U p l e (headSpec wsX6_dry (gRm 5 113)).room s m args below meth c (qUi below args s (dC, dI) vwCl (gty cI cJ cQ) A (fun u : (Nat → Int32) × PS => (wGO a_g a_h a_q a_k a_p a_x a_s s_g ++ (wGT cI a_g u.1 ++ (wP cI cJ a_h s_h ++ (wP cI cJ a_q u.2))))) r) (dC, dI) vwCl A 3 (wGO a_g a_h a_q a_k a_p a_x a_s s_g ++ (wGT cI a_g s_o ++ (wP cI cJ a_h s_h ++ (wP cI cJ a_q s_q)))) 26 [(0, .ref (a_g 0)), (1, .int x1), (2, .int x2)] [] := by
    intro x1
    have L : ∀ (n : Nat) (s_o : (Nat → Int32)) (s_q : PS) (x2 : Int32), g_lp (fun _ _ _ => none) (fX6_dry_b26B fu s_g s_h   x1) n s_o s_q x2 = some r → bk_U p l e (headSpec wsX6_dry (gRm 5 113)).room s m args below meth c (qUi below args s (dC, dI) vwCl (gty cI cJ cQ) A (fun u : (Nat → Int32) × PS => (wGO a_g a_h a_q a_k a_p a_x a_s s_g ++ (wGT cI a_g u.1 ++ (wP cI cJ a_h s_h ++ (wP cI cJ a_q u.2))))) r) (dC, dI) vwCl A 3 (wGO a_g a_h a_q a_k a_p a_x a_s s_g ++ (wGT cI a_g s_o ++ (wP cI cJ a_h s_h ++ (wP cI cJ a_q s_q)))) 26 [(0, .ref (a_g 0)), (1, .int x1), (2, .int x2)] [] := by
      intro n
      induction n with
      | zero => intro s_o s_q x2 hd; exact absurd hd (by intro h; cases h)
      | succ n k26 =>
        intro s_o s_q x2 hd
        intro H locs ls hP hD hS hl
        have hd : fX6_dry_b26B fu s_g s_h   x1 (g_lp (fun _ _ _ => none) (fX6_dry_b26B fu s_g s_h   x1) n) s_o s_q x2 = some r := hd
        unfold fX6_dry_b26B at hd
        refine lv_iload_n hx hb dX6_dry_26 rfl (lv_at hl 2 rfl) ?_
        refine lv_bipush (v := 60) hx hb dX6_dry_27 kb_60 ?_
        refine rx_icmp_gt hx hb 58 dX6_dry_29 rfl hd (fun hd => ?_) (fun hd => ?_)
        · refine lv_aload_n hx hb dX6_dry_58 rfl (lv_at hl 0 rfl) ?_
          refine lv_iconst (v := 3) hx hb dX6_dry_59 ki_3 ?_
          refine rx_upi (fun u => (wGO a_g a_h a_q a_k a_p a_x a_s s_g ++ (wGT cI a_g u ++ (wP cI cJ a_h s_h ++ (wP cI cJ a_q s_q))))) hd hP hD hS hA ⟨[0, 1], [2, 3, 4, 5, 6, 7, 8, 9, 10, 11, 12, 13, 14, 15, 16, 17, 18, 19, 20, 21], [20, 21, 0, 1, 2, 3, 4, 5, 6, 7, 8, 9, 10, 11, 12, 13, 14, 15, 16, 17, 18, 19], wP cI cJ a_h s_h ++ (wP cI cJ a_q s_q), rfl, rfl, rfl, by decide, rfl, fun _ => rfl⟩ (fun v hv => va_runV (As := [.int (3 : Int32)]) (rest := []) hcf (c_X6_finding l dC dI cI cJ cQ fu a_g a_h a_q a_k a_p a_x a_s _  s_g s_o (3 : Int32) v hv) (cwV 1 hts gX6_dry_X6_finding rfl rfl rfl cd_X6_finding ⟨(Nat.le_of_ble_eq_true rfl), (Nat.le_of_ble_eq_true rfl)⟩) (cq_U_V (q0 := 0) (ci := 5) hK hP hD [0, 1] rfl rfl rfl rfl) rfl rfl hl.1 rfl (lv_room (Nat.le_of_ble_eq_true rfl)) dX6_dry_60 ⟨Nat.le_refl _, Nat.le_refl _⟩) (fun u60 hd H locs hP hD hS => ?_)
          exact rx_retUi (u := (u60.2, s_q)) (w1 := (fun u : (Nat → Int32) × PS => (wGO a_g a_h a_q a_k a_p a_x a_s s_g ++ (wGT cI a_g u.1 ++ (wP cI cJ a_h s_h ++ (wP cI cJ a_q u.2)))))) hx hb hr hlocks hd hK hP hD hS dX6_dry_63
        refine lv_aload_n hx hb dX6_dry_32 rfl (lv_at hl 0 rfl) ?_
        refine rx_get hx hb hts fiX6_dry_X6 hown hK hP 0 rfl rfl 2 (Nat.le_of_ble_eq_true rfl) fl_20 rfl rfl dX6_dry_33 ?_
        refine rx_upv (fun u => (wGO a_g a_h a_q a_k a_p a_x a_s s_g ++ (wGT cI a_g s_o ++ (wP cI cJ a_h s_h ++ (wP cI cJ a_q u))))) hd hP hD hS hA ⟨[12, 13, 14, 15, 16, 17, 18, 19, 20, 21], [0, 1, 2, 3, 4, 5, 6, 7, 8, 9, 10, 11], [0, 1, 2, 3, 4, 5, 6, 7, 8, 9, 10, 11, 12, 13, 14, 15, 16, 17, 18, 19, 20, 21], wGO a_g a_h a_q a_k a_p a_x a_s s_g ++ (wGT cI a_g s_o ++ (wP cI cJ a_h s_h)), rfl, rfl, rfl, by decide, rfl, fun _ => rfl⟩ (fun v hv => va_runV (As := []) (rest := []) hcf (c_X1_passDay l dC dI cI cJ cQ fu a_q _  s_q  v hv) (cwV 0 hts gX6_dry_X1_passDay rfl rfl rfl cd_X1_passDay ⟨(Nat.le_of_ble_eq_true rfl), (Nat.le_of_ble_eq_true rfl)⟩) (cq_U_V (q0 := 12) (ci := 0) hK hP hD [12, 13, 14, 15, 16, 17, 18, 19, 20, 21] rfl rfl rfl rfl) rfl rfl hl.1 rfl (lv_room (Nat.le_of_ble_eq_true rfl)) dX6_dry_36 ⟨Nat.le_refl _, Nat.le_refl _⟩) (fun u36 hd H locs hP hD hS => ?_)
        refine lv_aload_n hx hb dX6_dry_39 rfl (lv_at hl 0 rfl) ?_
        refine rx_get hx hb hts fiX6_dry_X6 hown hK hP 0 rfl rfl 2 (Nat.le_of_ble_eq_true rfl) fl_20 rfl rfl dX6_dry_40 ?_
        refine lv_iload_n hx hb dX6_dry_43 rfl (lv_at hl 1 rfl) ?_
        refine rx_roi hd (fun v hv => W.runV (As := [.int x1]) (rest := []) hcf (c_X1_wasDry l dC dI cI cJ cQ fu a_q  u36 x1 v hv) (cwV 1 hts gX6_dry_X1_wasDry rfl rfl rfl cd_X1_wasDry ⟨(Nat.le_of_ble_eq_true rfl), (Nat.le_of_ble_eq_true rfl)⟩) (cq_R_V (q0 := 12) (ci := 0) hK hP [12, 13, 14, 15, 16, 17, 18, 19, 20, 21] rfl rfl rfl) rfl rfl hl.1 rfl (lv_room (Nat.le_of_ble_eq_true rfl)) dX6_dry_44 ⟨Nat.le_refl _, Nat.le_refl _⟩) (fun u44 hd => ?_)
        refine rx_if_eq hx hb 52 dX6_dry_47 rfl hd (fun hd => ?_) (fun hd => ?_)
        · refine rx_iinc (lv' := fun z => (2, .int z) :: [(0, .ref (a_g 0)), (1, .int x1)]) hx hb (j := 2) dX6_dry_52 hl rfl ki_1 hd (Nat.le_of_ble_eq_true rfl) (fun _ => rfl) (fun x2_52 hd ls hl => ?_)
          refine lv_goto (tgt := 26) hx hb dX6_dry_55 rfl ?_
          exact k26 s_o u36 x2_52 hd _ _ _ hP hD hS (lv_sub hl [1, 2, 0] rfl)
        refine lv_iload_n hx hb dX6_dry_50 rfl (lv_at hl 2 rfl) ?_
        exact rx_retUi (u := (s_o, u36)) (w1 := (fun u : (Nat → Int32) × PS => (wGO a_g a_h a_q a_k a_p a_x a_s s_g ++ (wGT cI a_g u.1 ++ (wP cI cJ a_h s_h ++ (wP cI cJ a_q u.2)))))) hx hb hr hlocks hd hK hP hD hS dX6_dry_51
    exact fun s_o s_q x2 => L fu s_o s_q x2
  refine lv_iload_n hx hb dX6_dry_0 rfl (lv_at hl 1 rfl) ?_
  refine rx_roi hd (fun v hv => W.runS (As := [.int x1]) (rest := []) hcf (c_X6_isFarm l dC dI cI cJ cQ fu    x1 v hv) (va_cwS 1 hts gX6_dry_X6_isFarm rfl rfl rfl cd_X6_isFarm ⟨(Nat.le_of_ble_eq_true rfl), (Nat.le_of_ble_eq_true rfl)⟩) (cq_R_S hK hP [] rfl) rfl rfl hl.1 rfl (lv_room (Nat.le_of_ble_eq_true rfl)) dX6_dry_1 ⟨Nat.le_refl _, Nat.le_refl _⟩) (fun u1 hd => ?_)
  refine rx_if_ne hx hb 13 dX6_dry_4 rfl hd (fun hd => ?_) (fun hd => ?_)
  · refine lv_aload_n hx hb dX6_dry_13 rfl (lv_at hl 0 rfl) ?_
    refine rx_get hx hb hts fiX6_dry_X6 hown hK hP 0 rfl rfl 2 (Nat.le_of_ble_eq_true rfl) fl_20 rfl rfl dX6_dry_14 ?_
    refine lv_aload_n hx hb dX6_dry_17 rfl (lv_at hl 0 rfl) ?_
    refine rx_get hx hb hts fiX6_dry_X6 hown hK hP 0 rfl rfl 1 (Nat.le_of_ble_eq_true rfl) fl_16 rfl rfl dX6_dry_18 ?_
    refine rx_upv (fun u => (wGO a_g a_h a_q a_k a_p a_x a_s s_g ++ (wGT cI a_g s_o ++ (wP cI cJ a_h s_h ++ (wP cI cJ a_q u))))) hd hP hD hS hA ⟨[12, 13, 14, 15, 16, 17, 18, 19, 20, 21, 2, 3, 4, 5, 6, 7, 8, 9, 10, 11], [0, 1], [0, 1, 12, 13, 14, 15, 16, 17, 18, 19, 20, 21, 2, 3, 4, 5, 6, 7, 8, 9, 10, 11], wGO a_g a_h a_q a_k a_p a_x a_s s_g ++ (wGT cI a_g s_o), rfl, rfl, rfl, by decide, rfl, fun _ => rfl⟩ (fun v hv => va_runV (As := [.ref (a_h 0)]) (rest := []) hcf (c_X1_become l dC dI cI cJ cQ fu a_q a_h _  s_q s_h  v hv) (cwV 1 hts gX6_dry_X1_become rfl rfl rfl cd_X1_become ⟨(Nat.le_of_ble_eq_true rfl), (Nat.le_of_ble_eq_true rfl)⟩) (cq_U_V (q0 := 12) (ci := 0) hK hP hD [12, 13, 14, 15, 16, 17, 18, 19, 20, 21, 2, 3, 4, 5, 6, 7, 8, 9, 10, 11] rfl rfl rfl rfl) rfl rfl hl.1 rfl (lv_room (Nat.le_of_ble_eq_true rfl)) dX6_dry_21 ⟨Nat.le_refl _, Nat.le_refl _⟩) (fun u21 hd H locs hP hD hS => ?_)
    refine lv_iconst (v := 1) hx hb dX6_dry_24 ki_1 ?_
    refine lv_istore_n (lv' := [(2, .int (1 : Int32)), (0, .ref (a_g 0)), (1, .int x1)]) hx hb dX6_dry_25 rfl hl (Nat.le_of_ble_eq_true rfl) rfl (fun ls hl => ?_)
    exact b26   x1 s_o u21 (1 : Int32) hd _ _ _ hP hD hS (lv_sub hl [1, 2, 0] rfl)
  refine lv_aload_n hx hb dX6_dry_7 rfl (lv_at hl 0 rfl) ?_
  refine lv_iconst (v := 0) hx hb dX6_dry_8 ki_0 ?_
  refine rx_upi (fun u => (wGO a_g a_h a_q a_k a_p a_x a_s s_g ++ (wGT cI a_g u ++ (wP cI cJ a_h s_h ++ (wP cI cJ a_q s_q))))) hd hP hD hS hA ⟨[0, 1], [2, 3, 4, 5, 6, 7, 8, 9, 10, 11, 12, 13, 14, 15, 16, 17, 18, 19, 20, 21], [20, 21, 0, 1, 2, 3, 4, 5, 6, 7, 8, 9, 10, 11, 12, 13, 14, 15, 16, 17, 18, 19], wP cI cJ a_h s_h ++ (wP cI cJ a_q s_q), rfl, rfl, rfl, by decide, rfl, fun _ => rfl⟩ (fun v hv => va_runV (As := [.int (0 : Int32)]) (rest := []) hcf (c_X6_finding l dC dI cI cJ cQ fu a_g a_h a_q a_k a_p a_x a_s _  s_g s_o (0 : Int32) v hv) (cwV 1 hts gX6_dry_X6_finding rfl rfl rfl cd_X6_finding ⟨(Nat.le_of_ble_eq_true rfl), (Nat.le_of_ble_eq_true rfl)⟩) (cq_U_V (q0 := 0) (ci := 5) hK hP hD [0, 1] rfl rfl rfl rfl) rfl rfl hl.1 rfl (lv_room (Nat.le_of_ble_eq_true rfl)) dX6_dry_9 ⟨Nat.le_refl _, Nat.le_refl _⟩) (fun u9 hd H locs hP hD hS => ?_)
  exact rx_retUi (u := (u9.2, s_q)) (w1 := (fun u : (Nat → Int32) × PS => (wGO a_g a_h a_q a_k a_p a_x a_s s_g ++ (wGT cI a_g u.1 ++ (wP cI cJ a_h s_h ++ (wP cI cJ a_q u.2)))))) hx hb hr hlocks hd hK hP hD hS dX6_dry_12
theorem fiX6_favourite_X1 : ∀ w ∈ wsX10, w ∈ wsX6_favourite := mem_r _ [51, 52, 53, 54, 55, 56, 57, 58, 59, 60, 61, 62] rfl
theorem fiX6_favourite_X6 : ∀ w ∈ wsX60, w ∈ wsX6_favourite := mem_r _ [43, 44, 45, 46, 47, 48, 49, 50] rfl
set_option maxHeartbeats 8000000 in
set_option maxRecDepth 100000 in
theorem c_X6_favourite (l : Launch) (dC : Nat → ClassId) (dI : Nat → Nat → Nat) (cI cJ cQ : ClassId) (fu : Nat) (a_g a_h a_q a_k a_p a_x a_s : Nat → Nat) (sz : Nat) (s_g : Int32) (s_o : (Nat → Int32)) (s_h : PS)  (r : Int32 × (Nat → Int32)) (hd : fX6_favourite fu  s_g s_o s_h  = some r) : mUi l yX6_favourite wsX6_favourite (gRm 4 90) [.ref (a_g 0)] (dC, dI) vwCl (gty cI cJ cQ) (wGO a_g a_h a_q a_k a_p a_x a_s s_g ++ (wGT cI a_g s_o ++ (wP cI cJ a_h s_h))) sz (fun u : (Nat → Int32) => (wGO a_g a_h a_q a_k a_p a_x a_s s_g ++ (wGT cI a_g u ++ (wP cI cJ a_h s_h)))) r := by
  refine Met.ofW (cc := cX6_favourite) (maxL := 3) (ret := (some .int)) (by decide) rfl ?_
  intro p e s m args below meth c s₁ B hml hv
  obtain ⟨hav, hsz, hP, hK, hD0⟩ := hv
  subst hsz
  have hD := hD0.self (sz := s.heap.size)
  generalize hAe : va_A (wGO a_g a_h a_q a_k a_p a_x a_s s_g ++ (wGT cI a_g s_o ++ (wP cI cJ a_h s_h))) s.heap.size = A at hD ⊢
  have hA : ∀ q : Nat, s.heap.size ≤ q → A q := fun q h => by rw [← hAe]; exact Or.inr h
  have hS : va_S A s.heap s.heap [] := va_S.rf
  have hx := B.exec
  have hb := B.bytes
  have hr := B.returns
  have hts := atoms_spec (ws := wsX6_favourite) B.pre
  have hown : s.vm.findClass RX6 = some m.cls := findClass_of_methodNamed B.named
  have hlocks := B.notSynchronized
  have hcf : CallFix p m c cX6_favourite 3 s args wsX6_favourite RX6 := ⟨hx, hb, hml, hown, hts⟩
  have fl_16 := hts (.fieldLink RX6 16 "BucketGift" "here" "LBucketGift$Parish;") (List.mem_of_getElem? (i := 1) rfl)
  have fl_84 := hts (.fieldLink RX6 84 "BucketGift$Parish" "people" "I") (List.mem_of_getElem? (i := 2) rfl)
  have hg : entryFrame m args 3 = entryFrame m ([.ref (a_g 0)] : List Value).toArray 3 := by rw [hav]
  rw [hg, lg_entry_eq]
  have hl := lv_entry ([.ref (a_g 0)]) (n := 3) (Nat.le_of_ble_eq_true rfl)
  generalize (lg_sl ([.ref (a_g 0)]) ++ List.replicate (3 - (lg_sl ([.ref (a_g 0)])).length) Slot.unset).toArray = ls at hl ⊢
  have hl : lv_has ls 3 [(0, .ref (a_g 0))] := hl
  clear hg
  unfold fX6_favourite at hd
  have b20 : ∀ (s_o : (Nat → Int32)) (x1 : Int32) (x2 : Int32), fX6_favourite_b20 fu s_g s_h    s_o x1 x2 = some r → bk_U p l e (headSpec wsX6_favourite (gRm 4 90)).room s m args below meth c (qUi below args s (dC, dI) vwCl (gty cI cJ cQ) A (fun u : (Nat → Int32) => (wGO a_g a_h a_q a_k a_p a_x a_s s_g ++ (wGT cI a_g u ++ (wP cI cJ a_h s_h)))) r) (dC, dI) vwCl A 3 (wGO a_g a_h a_q a_k a_p a_x a_s s_g ++ (wGT cI a_g s_o ++ (wP cI cJ a_h s_h))) 20 [(0, .ref (a_g 0)), (1, .int x1), (2, .int x2)] [] := by
    have L : ∀ (n : Nat) (s_o : (Nat → Int32)) (x1 : Int32) (x2 : Int32), g_lp (fun _ _ _ => none) (fX6_favourite_b20B fu s_g s_h   ) n s_o x1 x2 = some r → bk_U p l e (headSpec wsX6_favourite (gRm 4 90)).room s m args below meth c (qUi below args s (dC, dI) vwCl (gty cI cJ cQ) A (fun u : (Nat → Int32) => (wGO a_g a_h a_q a_k a_p a_x a_s s_g ++ (wGT cI a_g u ++ (wP cI cJ a_h s_h)))) r) (dC, dI) vwCl A 3 (wGO a_g a_h a_q a_k a_p a_x a_s s_g ++ (wGT cI a_g s_o ++ (wP cI cJ a_h s_h))) 20 [(0, .ref (a_g 0)), (1, .int x1), (2, .int x2)] [] := by
      intro n
      induction n with
      | zero => intro s_o x1 x2 hd; exact absurd hd (by intro h; cases h)
      | succ n k20 =>
        intro s_o x1 x2 hd
        intro H locs ls hP hD hS hl
        have hd : fX6_favourite_b20B fu s_g s_h    (g_lp (fun _ _ _ => none) (fX6_favourite_b20B fu s_g s_h   ) n) s_o x1 x2 = some r := hd
        unfold fX6_favourite_b20B at hd
        refine lv_iload_n hx hb dX6_favourite_20 rfl (lv_at hl 2 rfl) ?_
        refine lv_aload_n hx hb dX6_favourite_21 rfl (lv_at hl 0 rfl) ?_
        refine rx_get hx hb hts fiX6_favourite_X6 hown hK hP 0 rfl rfl 1 (Nat.le_of_ble_eq_true rfl) fl_16 rfl rfl dX6_favourite_22 ?_
        refine rx_get hx hb hts fiX6_favourite_X1 hown hK hP 2 rfl rfl 7 (Nat.le_of_ble_eq_true rfl) fl_84 rfl rfl dX6_favourite_25 ?_
        refine rx_icmp_ge hx hb 58 dX6_favourite_28 rfl hd (fun hd => ?_) (fun hd => ?_)
        · refine lv_iload_n hx hb dX6_favourite_58 rfl (lv_at hl 1 rfl) ?_
          exact rx_retUi (u := s_o) (w1 := (fun u : (Nat → Int32) => (wGO a_g a_h a_q a_k a_p a_x a_s s_g ++ (wGT cI a_g u ++ (wP cI cJ a_h s_h))))) hx hb hr hlocks hd hK hP hD hS dX6_favourite_59
        refine lv_aload_n hx hb dX6_favourite_31 rfl (lv_at hl 0 rfl) ?_
        refine rx_get hx hb hts fiX6_favourite_X6 hown hK hP 0 rfl rfl 1 (Nat.le_of_ble_eq_true rfl) fl_16 rfl rfl dX6_favourite_32 ?_
        refine lv_iload_n hx hb dX6_favourite_35 rfl (lv_at hl 2 rfl) ?_
        refine rx_roi hd (fun v hv => W.runV (As := [.int x2]) (rest := []) hcf (c_X1_givenTo l dC dI cI cJ cQ fu a_h  s_h x2 v hv) (cwV 1 hts gX6_favourite_X1_givenTo rfl rfl rfl cd_X1_givenTo ⟨(Nat.le_of_ble_eq_true rfl), (Nat.le_of_ble_eq_true rfl)⟩) (cq_R_V (q0 := 2) (ci := 0) hK hP [2, 3, 4, 5, 6, 7, 8, 9, 10, 11] rfl rfl rfl) rfl rfl hl.1 rfl (lv_room (Nat.le_of_ble_eq_true rfl)) dX6_favourite_36 ⟨Nat.le_refl _, Nat.le_refl _⟩) (fun u36 hd => ?_)
        refine lv_aload_n hx hb dX6_favourite_39 rfl (lv_at hl 0 rfl) ?_
        refine rx_get hx hb hts fiX6_favourite_X6 hown hK hP 0 rfl rfl 1 (Nat.le_of_ble_eq_true rfl) fl_16 rfl rfl dX6_favourite_40 ?_
        refine lv_iload_n hx hb dX6_favourite_43 rfl (lv_at hl 1 rfl) ?_
        refine rx_roi hd (fun v hv => W.runV (As := [.int x1]) (rest := [.int u36]) hcf (c_X1_givenTo l dC dI cI cJ cQ fu a_h  s_h x1 v hv) (cwV 1 hts gX6_favourite_X1_givenTo rfl rfl rfl cd_X1_givenTo ⟨(Nat.le_of_ble_eq_true rfl), (Nat.le_of_ble_eq_true rfl)⟩) (cq_R_V (q0 := 2) (ci := 0) hK hP [2, 3, 4, 5, 6, 7, 8, 9, 10, 11] rfl rfl rfl) rfl rfl hl.1 rfl (lv_room (Nat.le_of_ble_eq_true rfl)) dX6_favourite_44 ⟨Nat.le_refl _, Nat.le_refl _⟩) (fun u44 hd => ?_)
        refine rx_icmp_le hx hb 52 dX6_favourite_47 rfl hd (fun hd => ?_) (fun hd => ?_)
        · refine rx_iinc (lv' := fun z => (2, .int z) :: [(0, .ref (a_g 0)), (1, .int x1)]) hx hb (j := 2) dX6_favourite_52 hl rfl ki_1 hd (Nat.le_of_ble_eq_true rfl) (fun _ => rfl) (fun x2_52 hd ls hl => ?_)
          refine lv_goto (tgt := 20) hx hb dX6_favourite_55 rfl ?_
          exact k20 s_o x1 x2_52 hd _ _ _ hP hD hS (lv_sub hl [1, 2, 0] rfl)
        refine lv_iload_n hx hb dX6_favourite_50 rfl (lv_at hl 2 rfl) ?_
        refine lv_istore_n (lv' := [(1, .int x2), (0, .ref (a_g 0)), (2, .int x2)]) hx hb dX6_favourite_51 rfl hl (Nat.le_of_ble_eq_true rfl) rfl (fun ls hl => ?_)
        refine rx_iinc (lv' := fun z => (2, .int z) :: [(1, .int x2), (0, .ref (a_g 0))]) hx hb (j := 2) dX6_favourite_52 hl rfl ki_1 hd (Nat.le_of_ble_eq_true rfl) (fun _ => rfl) (fun x2_52 hd ls hl => ?_)
        refine lv_goto (tgt := 20) hx hb dX6_favourite_55 rfl ?_
        exact k20 s_o x2 x2_52 hd _ _ _ hP hD hS (lv_sub hl [2, 1, 0] rfl)
    exact fun s_o x1 x2 => L fu s_o x1 x2
  refine lv_aload_n hx hb dX6_favourite_0 rfl (lv_at hl 0 rfl) ?_
  refine rx_get hx hb hts fiX6_favourite_X6 hown hK hP 0 rfl rfl 1 (Nat.le_of_ble_eq_true rfl) fl_16 rfl rfl dX6_favourite_1 ?_
  refine rx_get hx hb hts fiX6_favourite_X1 hown hK hP 2 rfl rfl 7 (Nat.le_of_ble_eq_true rfl) fl_84 rfl rfl dX6_favourite_4 ?_
  refine rx_if_ne hx hb 16 dX6_favourite_7 rfl hd (fun hd => ?_) (fun hd => ?_)
  · refine lv_iconst (v := 0) hx hb dX6_favourite_16 ki_0 ?_
    refine lv_istore_n (lv' := [(1, .int (0 : Int32)), (0, .ref (a_g 0))]) hx hb dX6_favourite_17 rfl hl (Nat.le_of_ble_eq_true rfl) rfl (fun ls hl => ?_)
    refine lv_iconst (v := 1) hx hb dX6_favourite_18 ki_1 ?_
    refine lv_istore_n (lv' := [(2, .int (1 : Int32)), (1, .int (0 : Int32)), (0, .ref (a_g 0))]) hx hb dX6_favourite_19 rfl hl (Nat.le_of_ble_eq_true rfl) rfl (fun ls hl => ?_)
    exact b20   s_o (0 : Int32) (1 : Int32) hd _ _ _ hP hD hS (lv_sub hl [2, 1, 0] rfl)
  refine lv_aload_n hx hb dX6_favourite_10 rfl (lv_at hl 0 rfl) ?_
  refine lv_iconst (v := 3) hx hb dX6_favourite_11 ki_3 ?_
  refine rx_upi (fun u => (wGO a_g a_h a_q a_k a_p a_x a_s s_g ++ (wGT cI a_g u ++ (wP cI cJ a_h s_h)))) hd hP hD hS hA ⟨[0, 1], [2, 3, 4, 5, 6, 7, 8, 9, 10, 11], [10, 11, 0, 1, 2, 3, 4, 5, 6, 7, 8, 9], wP cI cJ a_h s_h, rfl, rfl, rfl, by decide, rfl, fun _ => rfl⟩ (fun v hv => va_runV (As := [.int (3 : Int32)]) (rest := []) hcf (c_X6_finding l dC dI cI cJ cQ fu a_g a_h a_q a_k a_p a_x a_s _  s_g s_o (3 : Int32) v hv) (cwV 1 hts gX6_favourite_X6_finding rfl rfl rfl cd_X6_finding ⟨(Nat.le_of_ble_eq_true rfl), (Nat.le_of_ble_eq_true rfl)⟩) (cq_U_V (q0 := 0) (ci := 5) hK hP hD [0, 1] rfl rfl rfl rfl) rfl rfl hl.1 rfl (lv_room (Nat.le_of_ble_eq_true rfl)) dX6_favourite_12 ⟨Nat.le_refl _, Nat.le_refl _⟩) (fun u12 hd H locs hP hD hS => ?_)
  exact rx_retUi (u := u12.2) (w1 := (fun u : (Nat → Int32) => (wGO a_g a_h a_q a_k a_p a_x a_s s_g ++ (wGT cI a_g u ++ (wP cI cJ a_h s_h))))) hx hb hr hlocks hd hK hP hD hS dX6_favourite_15
theorem fiX6_dryOfTrial_X1 : ∀ w ∈ wsX10, w ∈ wsX6_dryOfTrial := mem_r _ [67, 68, 69, 70, 71, 72, 73, 74, 75, 76, 77, 78] rfl
theorem fiX6_dryOfTrial_X6 : ∀ w ∈ wsX60, w ∈ wsX6_dryOfTrial := mem_r _ [59, 60, 61, 62, 63, 64, 65, 66] rfl
set_option maxHeartbeats 8000000 in
set_option maxRecDepth 100000 in
theorem c_X6_dryOfTrial (l : Launch) (dC : Nat → ClassId) (dI : Nat → Nat → Nat) (cI cJ cQ : ClassId) (fu : Nat) (a_g a_h a_q a_k a_p a_x a_s : Nat → Nat) (sz : Nat) (s_g : Int32) (s_h : PS) (s_q : PS) (x1 : Int32) (x2 : Int32) (r : Int32 × PS) (hd : fX6_dryOfTrial fu  s_g s_h s_q x1 x2 = some r) : mUi l yX6_dryOfTrial wsX6_dryOfTrial (gRm 5 113) [.ref (a_g 0), .int x1, .int x2] (dC, dI) vwCl (gty cI cJ cQ) (wGO a_g a_h a_q a_k a_p a_x a_s s_g ++ (wP cI cJ a_h s_h ++ (wP cI cJ a_q s_q))) sz (fun u : PS => (wGO a_g a_h a_q a_k a_p a_x a_s s_g ++ (wP cI cJ a_h s_h ++ (wP cI cJ a_q u)))) r := by
  refine Met.ofW (cc := cX6_dryOfTrial) (maxL := 6) (ret := (some .int)) (by decide) rfl ?_
  intro p e s m args below meth c s₁ B hml hv
  obtain ⟨hav, hsz, hP, hK, hD0⟩ := hv
  subst hsz
  have hD := hD0.self (sz := s.heap.size)
  generalize hAe : va_A (wGO a_g a_h a_q a_k a_p a_x a_s s_g ++ (wP cI cJ a_h s_h ++ (wP cI cJ a_q s_q))) s.heap.size = A at hD ⊢
  have hA : ∀ q : Nat, s.heap.size ≤ q → A q := fun q h => by rw [← hAe]; exact Or.inr h
  have hS : va_S A s.heap s.heap [] := va_S.rf
  have hx := B.exec
  have hb := B.bytes
  have hr := B.returns
  have hts := atoms_spec (ws := wsX6_dryOfTrial) B.pre
  have hown : s.vm.findClass RX6 = some m.cls := findClass_of_methodNamed B.named
  have hlocks := B.notSynchronized
  have hcf : CallFix p m c cX6_dryOfTrial 6 s args wsX6_dryOfTrial RX6 := ⟨hx, hb, hml, hown, hts⟩
  have fl_16 := hts (.fieldLink RX6 16 "BucketGift" "here" "LBucketGift$Parish;") (List.mem_of_getElem? (i := 1) rfl)
  have fl_126 := hts (.fieldLink RX6 126 "BucketGift$Parish" "thirst" "[I") (List.mem_of_getElem? (i := 2) rfl)
  have fl_20 := hts (.fieldLink RX6 20 "BucketGift" "trial" "LBucketGift$Parish;") (List.mem_of_getElem? (i := 3) rfl)
  have hg : entryFrame m args 6 = entryFrame m ([.ref (a_g 0), .int x1, .int x2] : List Value).toArray 6 := by rw [hav]
  rw [hg, lg_entry_eq]
  have hl := lv_entry ([.ref (a_g 0), .int x1, .int x2]) (n := 6) (Nat.le_of_ble_eq_true rfl)
  generalize (lg_sl ([.ref (a_g 0), .int x1, .int x2]) ++ List.replicate (6 - (lg_sl ([.ref (a_g 0), .int x1, .int x2])).length) Slot.unset).toArray = ls at hl ⊢
  have hl : lv_has ls 6 [(0, .ref (a_g 0)), (1, .int x1), (2, .int x2)] := hl
  clear hg
  unfold fX6_dryOfTrial at hd
  have b17 : ∀ (x1 : Int32) (x2 : Int32) (x3 : Int32) (s_q : PS) (x4 : Int32) (x5 : Int32), fX6_dryOfTrial_b17 fu s_g s_h   x1 x2 x3 s_q x4 x5 = some r → bk_U p l e (headSpec wsX6_dryOfTrial (gRm 5 113)).room s m args below meth c (qUi below args s (dC, dI) vwCl (gty cI cJ cQ) A (fun u : PS => (wGO a_g a_h a_q a_k a_p a_x a_s s_g ++ (wP cI cJ a_h s_h ++ (wP cI cJ a_q u)))) r) (dC, dI) vwCl A 6 (wGO a_g a_h a_q a_k a_p a_x a_s s_g ++ (wP cI cJ a_h s_h ++ (wP cI cJ a_q s_q))) 17 [(0, .ref (a_g 0)), (1, .int x1), (2, .int x2), (3, .int x3), (4, .int x4), (5, .int x5)] [] := by
    intro x1 x2 x3
    have L : ∀ (n : Nat) (s_q : PS) (x4 : Int32) (x5 : Int32), g_lp (fun _ _ _ => none) (fX6_dryOfTrial_b17B fu s_g s_h   x1 x2 x3) n s_q x4 x5 = some r → bk_U p l e (headSpec wsX6_dryOfTrial (gRm 5 113)).room s m args below meth c (qUi below args s (dC, dI) vwCl (gty cI cJ cQ) A (fun u : PS => (wGO a_g a_h a_q a_k a_p a_x a_s s_g ++ (wP cI cJ a_h s_h ++ (wP cI cJ a_q u)))) r) (dC, dI) vwCl A 6 (wGO a_g a_h a_q a_k a_p a_x a_s s_g ++ (wP cI cJ a_h s_h ++ (wP cI cJ a_q s_q))) 17 [(0, .ref (a_g 0)), (1, .int x1), (2, .int x2), (3, .int x3), (4, .int x4), (5, .int x5)] [] := by
      intro n
      induction n with
      | zero => intro s_q x4 x5 hd; exact absurd hd (by intro h; cases h)
      | succ n k17 =>
        intro s_q x4 x5 hd
        intro H locs ls hP hD hS hl
        have hd : fX6_dryOfTrial_b17B fu s_g s_h   x1 x2 x3 (g_lp (fun _ _ _ => none) (fX6_dryOfTrial_b17B fu s_g s_h   x1 x2 x3) n) s_q x4 x5 = some r := hd
        unfold fX6_dryOfTrial_b17B at hd
        refine lv_iload hx hb dX6_dryOfTrial_17 (lv_at hl 5 rfl) ?_
        refine lv_iload_n hx hb dX6_dryOfTrial_19 rfl (lv_at hl 1 rfl) ?_
        refine rx_icmp_ge hx hb 56 dX6_dryOfTrial_20 rfl hd (fun hd => ?_) (fun hd => ?_)
        · refine lv_iload hx hb dX6_dryOfTrial_56 (lv_at hl 4 rfl) ?_
          exact rx_retUi (u := s_q) (w1 := (fun u : PS => (wGO a_g a_h a_q a_k a_p a_x a_s s_g ++ (wP cI cJ a_h s_h ++ (wP cI cJ a_q u))))) hx hb hr hlocks hd hK hP hD hS dX6_dryOfTrial_58
        refine lv_iload hx hb dX6_dryOfTrial_23 (lv_at hl 4 rfl) ?_
        refine lv_iload_n hx hb dX6_dryOfTrial_25 rfl (lv_at hl 2 rfl) ?_
        refine rx_icmp_ge hx hb 56 dX6_dryOfTrial_26 rfl hd (fun hd => ?_) (fun hd => ?_)
        · refine lv_iload hx hb dX6_dryOfTrial_56 (lv_at hl 4 rfl) ?_
          exact rx_retUi (u := s_q) (w1 := (fun u : PS => (wGO a_g a_h a_q a_k a_p a_x a_s s_g ++ (wP cI cJ a_h s_h ++ (wP cI cJ a_q u))))) hx hb hr hlocks hd hK hP hD hS dX6_dryOfTrial_58
        refine lv_aload_n hx hb dX6_dryOfTrial_29 rfl (lv_at hl 0 rfl) ?_
        refine rx_get hx hb hts fiX6_dryOfTrial_X6 hown hK hP 0 rfl rfl 2 (Nat.le_of_ble_eq_true rfl) fl_20 rfl rfl dX6_dryOfTrial_30 ?_
        refine rx_upv (fun u => (wGO a_g a_h a_q a_k a_p a_x a_s s_g ++ (wP cI cJ a_h s_h ++ (wP cI cJ a_q u)))) hd hP hD hS hA ⟨[11, 12, 13, 14, 15, 16, 17, 18, 19, 20], [0, 1, 2, 3, 4, 5, 6, 7, 8, 9, 10], [0, 1, 2, 3, 4, 5, 6, 7, 8, 9, 10, 11, 12, 13, 14, 15, 16, 17, 18, 19, 20], wGO a_g a_h a_q a_k a_p a_x a_s s_g ++ (wP cI cJ a_h s_h), rfl, rfl, rfl, by decide, rfl, fun _ => rfl⟩ (fun v hv => va_runV (As := []) (rest := []) hcf (c_X1_passDay l dC dI cI cJ cQ fu a_q _  s_q  v hv) (cwV 0 hts gX6_dryOfTrial_X1_passDay rfl rfl rfl cd_X1_passDay ⟨(Nat.le_of_ble_eq_true rfl), (Nat.le_of_ble_eq_true rfl)⟩) (cq_U_V (q0 := 11) (ci := 0) hK hP hD [11, 12, 13, 14, 15, 16, 17, 18, 19, 20] rfl rfl rfl rfl) rfl rfl hl.1 rfl (lv_room (Nat.le_of_ble_eq_true rfl)) dX6_dryOfTrial_33 ⟨Nat.le_refl _, Nat.le_refl _⟩) (fun u33 hd H locs hP hD hS => ?_)
        refine lv_aload_n hx hb dX6_dryOfTrial_36 rfl (lv_at hl 0 rfl) ?_
        refine rx_get hx hb hts fiX6_dryOfTrial_X6 hown hK hP 0 rfl rfl 2 (Nat.le_of_ble_eq_true rfl) fl_20 rfl rfl dX6_dryOfTrial_37 ?_
        refine rx_get hx hb hts fiX6_dryOfTrial_X1 hown hK hP 11 rfl rfl 2 (Nat.le_of_ble_eq_true rfl) fl_126 rfl rfl dX6_dryOfTrial_40 ?_
        refine rx_roi hd (fun v hv => W.runS (As := [.ref (a_q 3)]) (rest := []) hcf (c_X1_total l dC dI cI cJ cQ fu (a_q 3) 4  (pgThirst u33)  v hv) (va_cwS 1 hts gX6_dryOfTrial_X1_total rfl rfl rfl cd_X1_total ⟨(Nat.le_of_ble_eq_true rfl), (Nat.le_of_ble_eq_true rfl)⟩) (cq_R_S hK hP [14] rfl) rfl rfl hl.1 rfl (lv_room (Nat.le_of_ble_eq_true rfl)) dX6_dryOfTrial_43 ⟨Nat.le_refl _, Nat.le_refl _⟩) (fun u43 hd => ?_)
        refine lv_iload_n hx hb dX6_dryOfTrial_46 rfl (lv_at hl 3 rfl) ?_
        refine lv_isub hx hb dX6_dryOfTrial_47 ?_
        refine rx_topi hd (fun x4_48 hd => ?_)
        refine lv_istore (lv' := [(4, .int x4_48), (0, .ref (a_g 0)), (1, .int x1), (2, .int x2), (3, .int x3), (5, .int x5)]) hx hb dX6_dryOfTrial_48 hl (Nat.le_of_ble_eq_true rfl) rfl (fun ls hl => ?_)
        refine rx_iinc (lv' := fun z => (5, .int z) :: [(4, .int x4_48), (0, .ref (a_g 0)), (1, .int x1), (2, .int x2), (3, .int x3)]) hx hb (j := 5) dX6_dryOfTrial_50 hl rfl ki_1 hd (Nat.le_of_ble_eq_true rfl) (fun _ => rfl) (fun x5_50 hd ls hl => ?_)
        refine lv_goto (tgt := 17) hx hb dX6_dryOfTrial_53 rfl ?_
        exact k17 u33 x4_48 x5_50 hd _ _ _ hP hD hS (lv_sub hl [2, 3, 4, 5, 1, 0] rfl)
    exact fun s_q x4 x5 => L fu s_q x4 x5
  refine lv_aload_n hx hb dX6_dryOfTrial_0 rfl (lv_at hl 0 rfl) ?_
  refine rx_get hx hb hts fiX6_dryOfTrial_X6 hown hK hP 0 rfl rfl 1 (Nat.le_of_ble_eq_true rfl) fl_16 rfl rfl dX6_dryOfTrial_1 ?_
  refine rx_get hx hb hts fiX6_dryOfTrial_X1 hown hK hP 1 rfl rfl 2 (Nat.le_of_ble_eq_true rfl) fl_126 rfl rfl dX6_dryOfTrial_4 ?_
  refine rx_roi hd (fun v hv => W.runS (As := [.ref (a_h 3)]) (rest := []) hcf (c_X1_total l dC dI cI cJ cQ fu (a_h 3) 4  (pgThirst s_h)  v hv) (va_cwS 1 hts gX6_dryOfTrial_X1_total rfl rfl rfl cd_X1_total ⟨(Nat.le_of_ble_eq_true rfl), (Nat.le_of_ble_eq_true rfl)⟩) (cq_R_S hK hP [4] rfl) rfl rfl hl.1 rfl (lv_room (Nat.le_of_ble_eq_true rfl)) dX6_dryOfTrial_7 ⟨Nat.le_refl _, Nat.le_refl _⟩) (fun u7 hd => ?_)
  refine lv_istore_n (lv' := [(3, .int u7), (0, .ref (a_g 0)), (1, .int x1), (2, .int x2)]) hx hb dX6_dryOfTrial_10 rfl hl (Nat.le_of_ble_eq_true rfl) rfl (fun ls hl => ?_)
  refine lv_iconst (v := 0) hx hb dX6_dryOfTrial_11 ki_0 ?_
  refine lv_istore (lv' := [(4, .int (0 : Int32)), (3, .int u7), (0, .ref (a_g 0)), (1, .int x1), (2, .int x2)]) hx hb dX6_dryOfTrial_12 hl (Nat.le_of_ble_eq_true rfl) rfl (fun ls hl => ?_)
  refine lv_iconst (v := 0) hx hb dX6_dryOfTrial_14 ki_0 ?_
  refine lv_istore (lv' := [(5, .int (0 : Int32)), (4, .int (0 : Int32)), (3, .int u7), (0, .ref (a_g 0)), (1, .int x1), (2, .int x2)]) hx hb dX6_dryOfTrial_15 hl (Nat.le_of_ble_eq_true rfl) rfl (fun ls hl => ?_)
  exact b17   x1 x2 u7 s_q (0 : Int32) (0 : Int32) hd _ _ _ hP hD hS (lv_sub hl [3, 4, 5, 2, 1, 0] rfl)
theorem fiX6_send_X1 : ∀ w ∈ wsX10, w ∈ wsX6_send := mem_r _ [95, 96, 97, 98, 99, 100, 101, 102, 103, 104, 105, 106] rfl
theorem fiX6_send_X6 : ∀ w ∈ wsX60, w ∈ wsX6_send := mem_r _ [87, 88, 89, 90, 91, 92, 93, 94] rfl
set_option maxHeartbeats 8000000 in
set_option maxRecDepth 100000 in
theorem c_X6_send (l : Launch) (dC : Nat → ClassId) (dI : Nat → Nat → Nat) (cI cJ cQ : ClassId) (fu : Nat) (a_g a_h a_q a_k a_p a_x a_s : Nat → Nat) (sz : Nat) (s_g : Int32) (s_o : (Nat → Int32)) (s_h : PS) (s_q : PS) (x1 : Int32) (x2 : Int32) (r : Int32 × (Nat → Int32) × PS) (hd : fX6_send fu  s_g s_o s_h s_q x1 x2 = some r) : mUi l yX6_send wsX6_send (gRm 6 138) [.ref (a_g 0), .int x1, .int x2] (dC, dI) vwCl (gty cI cJ cQ) (wGO a_g a_h a_q a_k a_p a_x a_s s_g ++ (wGT cI a_g s_o ++ (wP cI cJ a_h s_h ++ (wP cI cJ a_q s_q)))) sz (fun u : (Nat → Int32) × PS => (wGO a_g a_h a_q a_k a_p a_x a_s s_g ++ (wGT cI a_g u.1 ++ (wP cI cJ a_h s_h ++ (wP cI cJ a_q u.2))))) r := by
  refine Met.ofW (cc := cX6_send) (maxL := 7) (ret := (some .int)) (by decide) rfl ?_
  intro p e s m args below meth c s₁ B hml hv
  obtain ⟨hav, hsz, hP, hK, hD0⟩ := hv
  subst hsz
  have hD := hD0.self (sz := s.heap.size)
  generalize hAe : va_A (wGO a_g a_h a_q a_k a_p a_x a_s s_g ++ (wGT cI a_g s_o ++ (wP cI cJ a_h s_h ++ (wP cI cJ a_q s_q)))) s.heap.size = A at hD ⊢
  have hA : ∀ q : Nat, s.heap.size ≤ q → A q := fun q h => by rw [← hAe]; exact Or.inr h
  have hS : va_S A s.heap s.heap [] := va_S.rf
  have hx := B.exec
  have hb := B.bytes
  have hr := B.returns
  have hts := atoms_spec (ws := wsX6_send) B.pre
  have hown : s.vm.findClass RX6 = some m.cls := findClass_of_methodNamed B.named
  have hlocks := B.notSynchronized
  have hcf : CallFix p m c cX6_send 7 s args wsX6_send RX6 := ⟨hx, hb, hml, hown, hts⟩
  have fl_16 := hts (.fieldLink RX6 16 "BucketGift" "here" "LBucketGift$Parish;") (List.mem_of_getElem? (i := 1) rfl)
  have fl_84 := hts (.fieldLink RX6 84 "BucketGift$Parish" "people" "I") (List.mem_of_getElem? (i := 2) rfl)
  have fl_20 := hts (.fieldLink RX6 20 "BucketGift" "trial" "LBucketGift$Parish;") (List.mem_of_getElem? (i := 4) rfl)
  have fl_147 := hts (.fieldLink RX6 147 "BucketGift$Parish" "sends" "[I") (List.mem_of_getElem? (i := 5) rfl)
  have kc_146 := hts (.constant RX6 146 (1000000)) (List.mem_of_getElem? (i := 3) rfl)
  have hg : entryFrame m args 7 = entryFrame m ([.ref (a_g 0), .int x1, .int x2] : List Value).toArray 7 := by rw [hav]
  rw [hg, lg_entry_eq]
  have hl := lv_entry ([.ref (a_g 0), .int x1, .int x2]) (n := 7) (Nat.le_of_ble_eq_true rfl)
  generalize (lg_sl ([.ref (a_g 0), .int x1, .int x2]) ++ List.replicate (7 - (lg_sl ([.ref (a_g 0), .int x1, .int x2])).length) Slot.unset).toArray = ls at hl ⊢
  have hl : lv_has ls 7 [(0, .ref (a_g 0)), (1, .int x1), (2, .int x2)] := hl
  clear hg
  unfold fX6_send at hd
  have b17 : ∀ (s_o : (Nat → Int32)) (s_q : PS), fX6_send_b17 fu s_g s_h   s_o s_q = some r → bk_U p l e (headSpec wsX6_send (gRm 6 138)).room s m args below meth c (qUi below args s (dC, dI) vwCl (gty cI cJ cQ) A (fun u : (Nat → Int32) × PS => (wGO a_g a_h a_q a_k a_p a_x a_s s_g ++ (wGT cI a_g u.1 ++ (wP cI cJ a_h s_h ++ (wP cI cJ a_q u.2))))) r) (dC, dI) vwCl A 7 (wGO a_g a_h a_q a_k a_p a_x a_s s_g ++ (wGT cI a_g s_o ++ (wP cI cJ a_h s_h ++ (wP cI cJ a_q s_q)))) 17 [(0, .ref (a_g 0))] [] := by
    intro s_o s_q hd
    intro H locs ls hP hD hS hl
    unfold fX6_send_b17 at hd
    refine lv_aload_n hx hb dX6_send_17 rfl (lv_at hl 0 rfl) ?_
    refine lv_iconst (v := 0) hx hb dX6_send_18 ki_0 ?_
    refine rx_upi (fun u => (wGO a_g a_h a_q a_k a_p a_x a_s s_g ++ (wGT cI a_g u ++ (wP cI cJ a_h s_h ++ (wP cI cJ a_q s_q))))) hd hP hD hS hA ⟨[0, 1], [2, 3, 4, 5, 6, 7, 8, 9, 10, 11, 12, 13, 14, 15, 16, 17, 18, 19, 20, 21], [20, 21, 0, 1, 2, 3, 4, 5, 6, 7, 8, 9, 10, 11, 12, 13, 14, 15, 16, 17, 18, 19], wP cI cJ a_h s_h ++ (wP cI cJ a_q s_q), rfl, rfl, rfl, by decide, rfl, fun _ => rfl⟩ (fun v hv => va_runV (As := [.int (0 : Int32)]) (rest := []) hcf (c_X6_finding l dC dI cI cJ cQ fu a_g a_h a_q a_k a_p a_x a_s _  s_g s_o (0 : Int32) v hv) (cwV 1 hts gX6_send_X6_finding rfl rfl rfl cd_X6_finding ⟨(Nat.le_of_ble_eq_true rfl), (Nat.le_of_ble_eq_true rfl)⟩) (cq_U_V (q0 := 0) (ci := 5) hK hP hD [0, 1] rfl rfl rfl rfl) rfl rfl hl.1 rfl (lv_room (Nat.le_of_ble_eq_true rfl)) dX6_send_19 ⟨Nat.le_refl _, Nat.le_refl _⟩) (fun u19 hd H locs hP hD hS => ?_)
    exact rx_retUi (u := (u19.2, s_q)) (w1 := (fun u : (Nat → Int32) × PS => (wGO a_g a_h a_q a_k a_p a_x a_s s_g ++ (wGT cI a_g u.1 ++ (wP cI cJ a_h s_h ++ (wP cI cJ a_q u.2)))))) hx hb hr hlocks hd hK hP hD hS dX6_send_22
  have b48 : ∀ (x1 : Int32) (x2 : Int32) (s_o : (Nat → Int32)) (s_q : PS) (x3 : Int32) (x4 : Int32) (x5 : Int32), fX6_send_b48 fu s_g s_h   x1 x2 s_o s_q x3 x4 x5 = some r → bk_U p l e (headSpec wsX6_send (gRm 6 138)).room s m args below meth c (qUi below args s (dC, dI) vwCl (gty cI cJ cQ) A (fun u : (Nat → Int32) × PS => (wGO a_g a_h a_q a_k a_p a_x a_s s_g ++ (wGT cI a_g u.1 ++ (wP cI cJ a_h s_h ++ (wP cI cJ a_q u.2))))) r) (dC, dI) vwCl A 7 (wGO a_g a_h a_q a_k a_p a_x a_s s_g ++ (wGT cI a_g s_o ++ (wP cI cJ a_h s_h ++ (wP cI cJ a_q s_q)))) 48 [(0, .ref (a_g 0)), (1, .int x1), (2, .int x2), (3, .int x3), (4, .int x4), (5, .int x5)] [] := by
    intro x1 x2
    have L : ∀ (n : Nat) (s_o : (Nat → Int32)) (s_q : PS) (x3 : Int32) (x4 : Int32) (x5 : Int32), g_lp (fun _ _ _ _ _ => none) (fX6_send_b48B fu s_g s_h   x1 x2) n s_o s_q x3 x4 x5 = some r → bk_U p l e (headSpec wsX6_send (gRm 6 138)).room s m args below meth c (qUi below args s (dC, dI) vwCl (gty cI cJ cQ) A (fun u : (Nat → Int32) × PS => (wGO a_g a_h a_q a_k a_p a_x a_s s_g ++ (wGT cI a_g u.1 ++ (wP cI cJ a_h s_h ++ (wP cI cJ a_q u.2))))) r) (dC, dI) vwCl A 7 (wGO a_g a_h a_q a_k a_p a_x a_s s_g ++ (wGT cI a_g s_o ++ (wP cI cJ a_h s_h ++ (wP cI cJ a_q s_q)))) 48 [(0, .ref (a_g 0)), (1, .int x1), (2, .int x2), (3, .int x3), (4, .int x4), (5, .int x5)] [] := by
      intro n
      induction n with
      | zero => intro s_o s_q x3 x4 x5 hd; exact absurd hd (by intro h; cases h)
      | succ n k48 =>
        intro s_o s_q x3 x4 x5 hd
        intro H locs ls hP hD hS hl
        have hd : fX6_send_b48B fu s_g s_h   x1 x2 (g_lp (fun _ _ _ _ _ => none) (fX6_send_b48B fu s_g s_h   x1 x2) n) s_o s_q x3 x4 x5 = some r := hd
        unfold fX6_send_b48B at hd
        refine lv_iload hx hb dX6_send_48 (lv_at hl 5 rfl) ?_
        refine lv_aload_n hx hb dX6_send_50 rfl (lv_at hl 0 rfl) ?_
        refine rx_get hx hb hts fiX6_send_X6 hown hK hP 0 rfl rfl 1 (Nat.le_of_ble_eq_true rfl) fl_16 rfl rfl dX6_send_51 ?_
        refine rx_get hx hb hts fiX6_send_X1 hown hK hP 2 rfl rfl 7 (Nat.le_of_ble_eq_true rfl) fl_84 rfl rfl dX6_send_54 ?_
        refine rx_icmp_ge hx hb 111 dX6_send_57 rfl hd (fun hd => ?_) (fun hd => ?_)
        · refine lv_iload_n hx hb dX6_send_111 rfl (lv_at hl 3 rfl) ?_
          exact rx_retUi (u := (s_o, s_q)) (w1 := (fun u : (Nat → Int32) × PS => (wGO a_g a_h a_q a_k a_p a_x a_s s_g ++ (wGT cI a_g u.1 ++ (wP cI cJ a_h s_h ++ (wP cI cJ a_q u.2)))))) hx hb hr hlocks hd hK hP hD hS dX6_send_112
        refine lv_aload_n hx hb dX6_send_60 rfl (lv_at hl 0 rfl) ?_
        refine rx_get hx hb hts fiX6_send_X6 hown hK hP 0 rfl rfl 2 (Nat.le_of_ble_eq_true rfl) fl_20 rfl rfl dX6_send_61 ?_
        refine lv_aload_n hx hb dX6_send_64 rfl (lv_at hl 0 rfl) ?_
        refine rx_get hx hb hts fiX6_send_X6 hown hK hP 0 rfl rfl 1 (Nat.le_of_ble_eq_true rfl) fl_16 rfl rfl dX6_send_65 ?_
        refine rx_upv (fun u => (wGO a_g a_h a_q a_k a_p a_x a_s s_g ++ (wGT cI a_g s_o ++ (wP cI cJ a_h s_h ++ (wP cI cJ a_q u))))) hd hP hD hS hA ⟨[12, 13, 14, 15, 16, 17, 18, 19, 20, 21, 2, 3, 4, 5, 6, 7, 8, 9, 10, 11], [0, 1], [0, 1, 12, 13, 14, 15, 16, 17, 18, 19, 20, 21, 2, 3, 4, 5, 6, 7, 8, 9, 10, 11], wGO a_g a_h a_q a_k a_p a_x a_s s_g ++ (wGT cI a_g s_o), rfl, rfl, rfl, by decide, rfl, fun _ => rfl⟩ (fun v hv => va_runV (As := [.ref (a_h 0)]) (rest := []) hcf (c_X1_become l dC dI cI cJ cQ fu a_q a_h _  s_q s_h  v hv) (cwV 1 hts gX6_send_X1_become rfl rfl rfl cd_X1_become ⟨(Nat.le_of_ble_eq_true rfl), (Nat.le_of_ble_eq_true rfl)⟩) (cq_U_V (q0 := 12) (ci := 0) hK hP hD [12, 13, 14, 15, 16, 17, 18, 19, 20, 21, 2, 3, 4, 5, 6, 7, 8, 9, 10, 11] rfl rfl rfl rfl) rfl rfl hl.1 rfl (lv_room (Nat.le_of_ble_eq_true rfl)) dX6_send_68 ⟨Nat.le_refl _, Nat.le_refl _⟩) (fun u68 hd H locs hP hD hS => ?_)
        refine lv_aload_n hx hb dX6_send_71 rfl (lv_at hl 0 rfl) ?_
        refine rx_get hx hb hts fiX6_send_X6 hown hK hP 0 rfl rfl 2 (Nat.le_of_ble_eq_true rfl) fl_20 rfl rfl dX6_send_72 ?_
        refine rx_get hx hb hts fiX6_send_X1 hown hK hP 12 rfl rfl 3 (Nat.le_of_ble_eq_true rfl) fl_147 rfl rfl dX6_send_75 ?_
        refine lv_iload_n hx hb dX6_send_78 rfl (lv_at hl 1 rfl) ?_
        refine lv_iload hx hb dX6_send_79 (lv_at hl 5 rfl) ?_
        refine rx_iast (wGO a_g a_h a_q a_k a_p a_x a_s s_g ++ (wGT cI a_g s_o ++ (wP cI cJ a_h s_h ++ (wP cI cJ a_q (puSends u68 (Int32.toNatClampNeg x1) x5))))) hx hb hK hP hD hS 16 0 rfl rfl hd (g_setR (j := 15) rfl (g_setR (j := 14) rfl (g_setR (j := 4) rfl (wP_uSends ..)))) dX6_send_81 (fun hd H locs hP hD hS => ?_)
        refine lv_aload_n hx hb dX6_send_82 rfl (lv_at hl 0 rfl) ?_
        refine lv_iload_n hx hb dX6_send_83 rfl (lv_at hl 2 rfl) ?_
        refine lv_iload hx hb dX6_send_84 (lv_at hl 4 rfl) ?_
        refine rx_upi (fun u => (wGO a_g a_h a_q a_k a_p a_x a_s s_g ++ (wGT cI a_g s_o ++ (wP cI cJ a_h s_h ++ (wP cI cJ a_q u))))) hd hP hD hS hA ⟨[0, 2, 3, 4, 5, 6, 7, 8, 9, 10, 11, 12, 13, 14, 15, 16, 17, 18, 19, 20, 21], [1], [1, 0, 2, 3, 4, 5, 6, 7, 8, 9, 10, 11, 12, 13, 14, 15, 16, 17, 18, 19, 20, 21], wGT cI a_g s_o, rfl, rfl, rfl, by decide, rfl, fun _ => rfl⟩ (fun v hv => va_runV (As := [.int x2, .int x4]) (rest := []) hcf (c_X6_dryOfTrial l dC dI cI cJ cQ fu a_g a_h a_q a_k a_p a_x a_s _  s_g s_h (puSends u68 (Int32.toNatClampNeg x1) x5) x2 x4 v hv) (cwV 2 hts gX6_send_X6_dryOfTrial rfl rfl rfl cd_X6_dryOfTrial ⟨(Nat.le_of_ble_eq_true rfl), (Nat.le_of_ble_eq_true rfl)⟩) (cq_U_V (q0 := 0) (ci := 5) hK hP hD [0, 2, 3, 4, 5, 6, 7, 8, 9, 10, 11, 12, 13, 14, 15, 16, 17, 18, 19, 20, 21] rfl rfl rfl rfl) rfl rfl hl.1 rfl (lv_room (Nat.le_of_ble_eq_true rfl)) dX6_send_86 ⟨Nat.le_refl _, Nat.le_refl _⟩) (fun u86 hd H locs hP hD hS => ?_)
        refine lv_istore (lv' := [(6, .int u86.1), (0, .ref (a_g 0)), (1, .int x1), (2, .int x2), (3, .int x3), (4, .int x4), (5, .int x5)]) hx hb dX6_send_89 hl (Nat.le_of_ble_eq_true rfl) rfl (fun ls hl => ?_)
        refine lv_iload hx hb dX6_send_91 (lv_at hl 0 rfl) ?_
        refine lv_iload hx hb dX6_send_93 (lv_at hl 5 rfl) ?_
        refine rx_icmp_ge hx hb 105 dX6_send_95 rfl hd (fun hd => ?_) (fun hd => ?_)
        · refine rx_iinc (lv' := fun z => (5, .int z) :: [(6, .int u86.1), (0, .ref (a_g 0)), (1, .int x1), (2, .int x2), (3, .int x3), (4, .int x4)]) hx hb (j := 6) dX6_send_105 hl rfl ki_1 hd (Nat.le_of_ble_eq_true rfl) (fun _ => rfl) (fun x5_105 hd ls hl => ?_)
          refine lv_goto (tgt := 48) hx hb dX6_send_108 rfl ?_
          exact k48 s_o u86.2 x3 x4 x5_105 hd _ _ _ hP hD hS (lv_sub hl [2, 3, 4, 5, 6, 0] rfl)
        refine lv_iload hx hb dX6_send_98 (lv_at hl 0 rfl) ?_
        refine lv_istore (lv' := [(4, .int u86.1), (6, .int u86.1), (0, .ref (a_g 0)), (1, .int x1), (2, .int x2), (3, .int x3), (5, .int x5)]) hx hb dX6_send_100 hl (Nat.le_of_ble_eq_true rfl) rfl (fun ls hl => ?_)
        refine lv_iload hx hb dX6_send_102 (lv_at hl 6 rfl) ?_
        refine lv_istore_n (lv' := [(3, .int x5), (4, .int u86.1), (6, .int u86.1), (0, .ref (a_g 0)), (1, .int x1), (2, .int x2), (5, .int x5)]) hx hb dX6_send_104 rfl hl (Nat.le_of_ble_eq_true rfl) rfl (fun ls hl => ?_)
        refine rx_iinc (lv' := fun z => (5, .int z) :: [(3, .int x5), (4, .int u86.1), (6, .int u86.1), (0, .ref (a_g 0)), (1, .int x1), (2, .int x2)]) hx hb (j := 6) dX6_send_105 hl rfl ki_1 hd (Nat.le_of_ble_eq_true rfl) (fun _ => rfl) (fun x5_105 hd ls hl => ?_)
        refine lv_goto (tgt := 48) hx hb dX6_send_108 rfl ?_
        exact k48 s_o u86.2 x5 u86.1 x5_105 hd _ _ _ hP hD hS (lv_sub hl [4, 5, 6, 1, 2, 0] rfl)
    exact fun s_o s_q x3 x4 x5 => L fu s_o s_q x3 x4 x5
  refine lv_iload_n hx hb dX6_send_0 rfl (lv_at hl 1 rfl) ?_
  refine rx_roi hd (fun v hv => W.runS (As := [.int x1]) (rest := []) hcf (c_X6_isFarm l dC dI cI cJ cQ fu    x1 v hv) (va_cwS 1 hts gX6_send_X6_isFarm rfl rfl rfl cd_X6_isFarm ⟨(Nat.le_of_ble_eq_true rfl), (Nat.le_of_ble_eq_true rfl)⟩) (cq_R_S hK hP [] rfl) rfl rfl hl.1 rfl (lv_room (Nat.le_of_ble_eq_true rfl)) dX6_send_1 ⟨Nat.le_refl _, Nat.le_refl _⟩) (fun u1 hd => ?_)
  refine rx_if_eq hx hb 17 dX6_send_4 rfl hd (fun hd => ?_) (fun hd => ?_)
  · exact b17   s_o s_q hd _ _ _ hP hD hS (lv_sub hl [0] rfl)
  refine lv_iload_n hx hb dX6_send_7 rfl (lv_at hl 2 rfl) ?_
  refine lv_iconst (v := 1) hx hb dX6_send_8 ki_1 ?_
  refine lv_bipush (v := 20) hx hb dX6_send_9 kb_20 ?_
  refine rx_roi hd (fun v hv => W.runS (As := [.int x2, .int (1 : Int32), .int (20 : Int32)]) (rest := []) hcf (c_X6_isWithin l dC dI cI cJ cQ fu    x2 (1 : Int32) (20 : Int32) v hv) (va_cwS 3 hts gX6_send_X6_isWithin rfl rfl rfl cd_X6_isWithin ⟨(Nat.le_of_ble_eq_true rfl), (Nat.le_of_ble_eq_true rfl)⟩) (cq_R_S hK hP [] rfl) rfl rfl hl.1 rfl (lv_room (Nat.le_of_ble_eq_true rfl)) dX6_send_11 ⟨Nat.le_refl _, Nat.le_refl _⟩) (fun u11 hd => ?_)
  refine rx_if_ne hx hb 23 dX6_send_14 rfl hd (fun hd => ?_) (fun hd => ?_)
  · refine lv_aload_n hx hb dX6_send_23 rfl (lv_at hl 0 rfl) ?_
    refine rx_get hx hb hts fiX6_send_X6 hown hK hP 0 rfl rfl 1 (Nat.le_of_ble_eq_true rfl) fl_16 rfl rfl dX6_send_24 ?_
    refine rx_get hx hb hts fiX6_send_X1 hown hK hP 2 rfl rfl 7 (Nat.le_of_ble_eq_true rfl) fl_84 rfl rfl dX6_send_27 ?_
    refine rx_if_ne hx hb 39 dX6_send_30 rfl hd (fun hd => ?_) (fun hd => ?_)
    · refine lv_iconst (v := 0) hx hb dX6_send_39 ki_0 ?_
      refine lv_istore_n (lv' := [(3, .int (0 : Int32)), (0, .ref (a_g 0)), (1, .int x1), (2, .int x2)]) hx hb dX6_send_40 rfl hl (Nat.le_of_ble_eq_true rfl) rfl (fun ls hl => ?_)
      refine lv_ldc hx hb hown kc_146 dX6_send_41 ?_
      refine lv_istore (lv' := [(4, .int (1000000 : Int32)), (3, .int (0 : Int32)), (0, .ref (a_g 0)), (1, .int x1), (2, .int x2)]) hx hb dX6_send_43 hl (Nat.le_of_ble_eq_true rfl) rfl (fun ls hl => ?_)
      refine lv_iconst (v := 0) hx hb dX6_send_45 ki_0 ?_
      refine lv_istore (lv' := [(5, .int (0 : Int32)), (4, .int (1000000 : Int32)), (3, .int (0 : Int32)), (0, .ref (a_g 0)), (1, .int x1), (2, .int x2)]) hx hb dX6_send_46 hl (Nat.le_of_ble_eq_true rfl) rfl (fun ls hl => ?_)
      exact b48   x1 x2 s_o s_q (0 : Int32) (1000000 : Int32) (0 : Int32) hd _ _ _ hP hD hS (lv_sub hl [3, 4, 5, 2, 1, 0] rfl)
    refine lv_aload_n hx hb dX6_send_33 rfl (lv_at hl 0 rfl) ?_
    refine lv_iconst (v := 3) hx hb dX6_send_34 ki_3 ?_
    refine rx_upi (fun u => (wGO a_g a_h a_q a_k a_p a_x a_s s_g ++ (wGT cI a_g u ++ (wP cI cJ a_h s_h ++ (wP cI cJ a_q s_q))))) hd hP hD hS hA ⟨[0, 1], [2, 3, 4, 5, 6, 7, 8, 9, 10, 11, 12, 13, 14, 15, 16, 17, 18, 19, 20, 21], [20, 21, 0, 1, 2, 3, 4, 5, 6, 7, 8, 9, 10, 11, 12, 13, 14, 15, 16, 17, 18, 19], wP cI cJ a_h s_h ++ (wP cI cJ a_q s_q), rfl, rfl, rfl, by decide, rfl, fun _ => rfl⟩ (fun v hv => va_runV (As := [.int (3 : Int32)]) (rest := []) hcf (c_X6_finding l dC dI cI cJ cQ fu a_g a_h a_q a_k a_p a_x a_s _  s_g s_o (3 : Int32) v hv) (cwV 1 hts gX6_send_X6_finding rfl rfl rfl cd_X6_finding ⟨(Nat.le_of_ble_eq_true rfl), (Nat.le_of_ble_eq_true rfl)⟩) (cq_U_V (q0 := 0) (ci := 5) hK hP hD [0, 1] rfl rfl rfl rfl) rfl rfl hl.1 rfl (lv_room (Nat.le_of_ble_eq_true rfl)) dX6_send_35 ⟨Nat.le_refl _, Nat.le_refl _⟩) (fun u35 hd H locs hP hD hS => ?_)
    exact rx_retUi (u := (u35.2, s_q)) (w1 := (fun u : (Nat → Int32) × PS => (wGO a_g a_h a_q a_k a_p a_x a_s s_g ++ (wGT cI a_g u.1 ++ (wP cI cJ a_h s_h ++ (wP cI cJ a_q u.2)))))) hx hb hr hlocks hd hK hP hD hS dX6_send_38
  exact b17   s_o s_q hd _ _ _ hP hD hS (lv_sub hl [0] rfl)
theorem fiX6_round_X1 : ∀ w ∈ wsX10, w ∈ wsX6_round := mem_r _ [105, 106, 107, 108, 109, 110, 111, 112, 113, 114, 115, 116] rfl
theorem fiX6_round_X6 : ∀ w ∈ wsX60, w ∈ wsX6_round := mem_r _ [97, 98, 99, 100, 101, 102, 103, 104] rfl
set_option maxHeartbeats 8000000 in
set_option maxRecDepth 100000 in
theorem c_X6_round (l : Launch) (dC : Nat → ClassId) (dI : Nat → Nat → Nat) (cI cJ cQ : ClassId) (fu : Nat) (a_g a_h a_q a_k a_p a_x a_s : Nat → Nat) (sz : Nat) (s_g : Int32) (s_o : (Nat → Int32)) (s_h : PS) (s_q : PS) (x1 : Int32) (r : Int32 × (Nat → Int32) × PS) (hd : fX6_round fu  s_g s_o s_h s_q x1 = some r) : mUi l yX6_round wsX6_round (gRm 6 138) [.ref (a_g 0), .int x1] (dC, dI) vwCl (gty cI cJ cQ) (wGO a_g a_h a_q a_k a_p a_x a_s s_g ++ (wGT cI a_g s_o ++ (wP cI cJ a_h s_h ++ (wP cI cJ a_q s_q)))) sz (fun u : (Nat → Int32) × PS => (wGO a_g a_h a_q a_k a_p a_x a_s s_g ++ (wGT cI a_g u.1 ++ (wP cI cJ a_h s_h ++ (wP cI cJ a_q u.2))))) r := by
  refine Met.ofW (cc := cX6_round) (maxL := 6) (ret := (some .int)) (by decide) rfl ?_
  intro p e s m args below meth c s₁ B hml hv
  obtain ⟨hav, hsz, hP, hK, hD0⟩ := hv
  subst hsz
  have hD := hD0.self (sz := s.heap.size)
  generalize hAe : va_A (wGO a_g a_h a_q a_k a_p a_x a_s s_g ++ (wGT cI a_g s_o ++ (wP cI cJ a_h s_h ++ (wP cI cJ a_q s_q)))) s.heap.size = A at hD ⊢
  have hA : ∀ q : Nat, s.heap.size ≤ q → A q := fun q h => by rw [← hAe]; exact Or.inr h
  have hS : va_S A s.heap s.heap [] := va_S.rf
  have hx := B.exec
  have hb := B.bytes
  have hr := B.returns
  have hts := atoms_spec (ws := wsX6_round) B.pre
  have hown : s.vm.findClass RX6 = some m.cls := findClass_of_methodNamed B.named
  have hlocks := B.notSynchronized
  have hcf : CallFix p m c cX6_round 6 s args wsX6_round RX6 := ⟨hx, hb, hml, hown, hts⟩
  have fl_16 := hts (.fieldLink RX6 16 "BucketGift" "here" "LBucketGift$Parish;") (List.mem_of_getElem? (i := 1) rfl)
  have fl_84 := hts (.fieldLink RX6 84 "BucketGift$Parish" "people" "I") (List.mem_of_getElem? (i := 2) rfl)
  have fl_20 := hts (.fieldLink RX6 20 "BucketGift" "trial" "LBucketGift$Parish;") (List.mem_of_getElem? (i := 4) rfl)
  have kc_146 := hts (.constant RX6 146 (1000000)) (List.mem_of_getElem? (i := 3) rfl)
  have hg : entryFrame m args 6 = entryFrame m ([.ref (a_g 0), .int x1] : List Value).toArray 6 := by rw [hav]
  rw [hg, lg_entry_eq]
  have hl := lv_entry ([.ref (a_g 0), .int x1]) (n := 6) (Nat.le_of_ble_eq_true rfl)
  generalize (lg_sl ([.ref (a_g 0), .int x1]) ++ List.replicate (6 - (lg_sl ([.ref (a_g 0), .int x1])).length) Slot.unset).toArray = ls at hl ⊢
  have hl : lv_has ls 6 [(0, .ref (a_g 0)), (1, .int x1)] := hl
  clear hg
  unfold fX6_round at hd
  have b111 : ∀ (s_o : (Nat → Int32)) (s_q : PS) (x2 : Int32), fX6_round_b111 fu s_g s_h   s_o s_q x2 = some r → bk_U p l e (headSpec wsX6_round (gRm 6 138)).room s m args below meth c (qUi below args s (dC, dI) vwCl (gty cI cJ cQ) A (fun u : (Nat → Int32) × PS => (wGO a_g a_h a_q a_k a_p a_x a_s s_g ++ (wGT cI a_g u.1 ++ (wP cI cJ a_h s_h ++ (wP cI cJ a_q u.2))))) r) (dC, dI) vwCl A 6 (wGO a_g a_h a_q a_k a_p a_x a_s s_g ++ (wGT cI a_g s_o ++ (wP cI cJ a_h s_h ++ (wP cI cJ a_q s_q)))) 111 [(2, .int x2)] [] := by
    intro s_o s_q x2 hd
    intro H locs ls hP hD hS hl
    unfold fX6_round_b111 at hd
    refine lv_iload_n hx hb dX6_round_111 rfl (lv_at hl 0 rfl) ?_
    refine rx_roi hd (fun v hv => W.runS (As := [.int x2]) (rest := []) hcf (c_X1_roundInTens l dC dI cI cJ cQ fu    x2 v hv) (va_cwS 1 hts gX6_round_X1_roundInTens rfl rfl rfl cd_X1_roundInTens ⟨(Nat.le_of_ble_eq_true rfl), (Nat.le_of_ble_eq_true rfl)⟩) (cq_R_S hK hP [] rfl) rfl rfl hl.1 rfl (lv_room (Nat.le_of_ble_eq_true rfl)) dX6_round_112 ⟨Nat.le_refl _, Nat.le_refl _⟩) (fun u112 hd => ?_)
    exact rx_retUi (u := (s_o, s_q)) (w1 := (fun u : (Nat → Int32) × PS => (wGO a_g a_h a_q a_k a_p a_x a_s s_g ++ (wGT cI a_g u.1 ++ (wP cI cJ a_h s_h ++ (wP cI cJ a_q u.2)))))) hx hb hr hlocks hd hK hP hD hS dX6_round_115
  have b41 : ∀ (x1 : Int32) (s_o : (Nat → Int32)) (s_q : PS) (x2 : Int32) (x3 : Int32) (x4 : Int32), fX6_round_b41 fu s_g s_h   x1 s_o s_q x2 x3 x4 = some r → bk_U p l e (headSpec wsX6_round (gRm 6 138)).room s m args below meth c (qUi below args s (dC, dI) vwCl (gty cI cJ cQ) A (fun u : (Nat → Int32) × PS => (wGO a_g a_h a_q a_k a_p a_x a_s s_g ++ (wGT cI a_g u.1 ++ (wP cI cJ a_h s_h ++ (wP cI cJ a_q u.2))))) r) (dC, dI) vwCl A 6 (wGO a_g a_h a_q a_k a_p a_x a_s s_g ++ (wGT cI a_g s_o ++ (wP cI cJ a_h s_h ++ (wP cI cJ a_q s_q)))) 41 [(0, .ref (a_g 0)), (1, .int x1), (2, .int x2), (3, .int x3), (4, .int x4)] [] := by
    intro x1
    have L : ∀ (n : Nat) (s_o : (Nat → Int32)) (s_q : PS) (x2 : Int32) (x3 : Int32) (x4 : Int32), g_lp (fun _ _ _ _ _ => none) (fX6_round_b41B fu s_g s_h   x1) n s_o s_q x2 x3 x4 = some r → bk_U p l e (headSpec wsX6_round (gRm 6 138)).room s m args below meth c (qUi below args s (dC, dI) vwCl (gty cI cJ cQ) A (fun u : (Nat → Int32) × PS => (wGO a_g a_h a_q a_k a_p a_x a_s s_g ++ (wGT cI a_g u.1 ++ (wP cI cJ a_h s_h ++ (wP cI cJ a_q u.2))))) r) (dC, dI) vwCl A 6 (wGO a_g a_h a_q a_k a_p a_x a_s s_g ++ (wGT cI a_g s_o ++ (wP cI cJ a_h s_h ++ (wP cI cJ a_q s_q)))) 41 [(0, .ref (a_g 0)), (1, .int x1), (2, .int x2), (3, .int x3), (4, .int x4)] [] := by
      intro n
      induction n with
      | zero => intro s_o s_q x2 x3 x4 hd; exact absurd hd (by intro h; cases h)
      | succ n k41 =>
        intro s_o s_q x2 x3 x4 hd
        intro H locs ls hP hD hS hl
        have hd : fX6_round_b41B fu s_g s_h   x1 (g_lp (fun _ _ _ _ _ => none) (fX6_round_b41B fu s_g s_h   x1) n) s_o s_q x2 x3 x4 = some r := hd
        unfold fX6_round_b41B at hd
        refine lv_iload hx hb dX6_round_41 (lv_at hl 4 rfl) ?_
        refine lv_sipush (v := 4096) hx hb dX6_round_43 ks_4096 ?_
        refine rx_icmp_ge hx hb 111 dX6_round_46 rfl hd (fun hd => ?_) (fun hd => ?_)
        · exact b111   s_o s_q x2 hd _ _ _ hP hD hS (lv_sub hl [2] rfl)
        refine lv_iload_n hx hb dX6_round_49 rfl (lv_at hl 3 rfl) ?_
        refine rx_if_le hx hb 111 dX6_round_50 rfl hd (fun hd => ?_) (fun hd => ?_)
        · exact b111   s_o s_q x2 hd _ _ _ hP hD hS (lv_sub hl [2] rfl)
        refine lv_aload_n hx hb dX6_round_53 rfl (lv_at hl 0 rfl) ?_
        refine rx_get hx hb hts fiX6_round_X6 hown hK hP 0 rfl rfl 1 (Nat.le_of_ble_eq_true rfl) fl_16 rfl rfl dX6_round_54 ?_
        refine lv_iload hx hb dX6_round_57 (lv_at hl 4 rfl) ?_
        refine rx_roi hd (fun v hv => W.runV (As := [.int x4]) (rest := []) hcf (c_X1_isRound l dC dI cI cJ cQ fu a_h  s_h x4 v hv) (cwV 1 hts gX6_round_X1_isRound rfl rfl rfl cd_X1_isRound ⟨(Nat.le_of_ble_eq_true rfl), (Nat.le_of_ble_eq_true rfl)⟩) (cq_R_V (q0 := 2) (ci := 0) hK hP [2, 3, 4, 5, 6, 7, 8, 9, 10, 11] rfl rfl rfl) rfl rfl hl.1 rfl (lv_room (Nat.le_of_ble_eq_true rfl)) dX6_round_59 ⟨Nat.le_refl _, Nat.le_refl _⟩) (fun u59 hd => ?_)
        refine rx_if_eq hx hb 105 dX6_round_62 rfl hd (fun hd => ?_) (fun hd => ?_)
        · refine rx_iinc (lv' := fun z => (4, .int z) :: [(0, .ref (a_g 0)), (1, .int x1), (2, .int x2), (3, .int x3)]) hx hb (j := 4) dX6_round_105 hl rfl ki_1 hd (Nat.le_of_ble_eq_true rfl) (fun _ => rfl) (fun x4_105 hd ls hl => ?_)
          refine lv_goto (tgt := 41) hx hb dX6_round_108 rfl ?_
          exact k41 s_o s_q x2 x3 x4_105 hd _ _ _ hP hD hS (lv_sub hl [1, 2, 3, 4, 0] rfl)
        refine lv_aload_n hx hb dX6_round_65 rfl (lv_at hl 0 rfl) ?_
        refine rx_get hx hb hts fiX6_round_X6 hown hK hP 0 rfl rfl 2 (Nat.le_of_ble_eq_true rfl) fl_20 rfl rfl dX6_round_66 ?_
        refine lv_aload_n hx hb dX6_round_69 rfl (lv_at hl 0 rfl) ?_
        refine rx_get hx hb hts fiX6_round_X6 hown hK hP 0 rfl rfl 1 (Nat.le_of_ble_eq_true rfl) fl_16 rfl rfl dX6_round_70 ?_
        refine rx_upv (fun u => (wGO a_g a_h a_q a_k a_p a_x a_s s_g ++ (wGT cI a_g s_o ++ (wP cI cJ a_h s_h ++ (wP cI cJ a_q u))))) hd hP hD hS hA ⟨[12, 13, 14, 15, 16, 17, 18, 19, 20, 21, 2, 3, 4, 5, 6, 7, 8, 9, 10, 11], [0, 1], [0, 1, 12, 13, 14, 15, 16, 17, 18, 19, 20, 21, 2, 3, 4, 5, 6, 7, 8, 9, 10, 11], wGO a_g a_h a_q a_k a_p a_x a_s s_g ++ (wGT cI a_g s_o), rfl, rfl, rfl, by decide, rfl, fun _ => rfl⟩ (fun v hv => va_runV (As := [.ref (a_h 0)]) (rest := []) hcf (c_X1_become l dC dI cI cJ cQ fu a_q a_h _  s_q s_h  v hv) (cwV 1 hts gX6_round_X1_become rfl rfl rfl cd_X1_become ⟨(Nat.le_of_ble_eq_true rfl), (Nat.le_of_ble_eq_true rfl)⟩) (cq_U_V (q0 := 12) (ci := 0) hK hP hD [12, 13, 14, 15, 16, 17, 18, 19, 20, 21, 2, 3, 4, 5, 6, 7, 8, 9, 10, 11] rfl rfl rfl rfl) rfl rfl hl.1 rfl (lv_room (Nat.le_of_ble_eq_true rfl)) dX6_round_73 ⟨Nat.le_refl _, Nat.le_refl _⟩) (fun u73 hd H locs hP hD hS => ?_)
        refine lv_aload_n hx hb dX6_round_76 rfl (lv_at hl 0 rfl) ?_
        refine rx_get hx hb hts fiX6_round_X6 hown hK hP 0 rfl rfl 2 (Nat.le_of_ble_eq_true rfl) fl_20 rfl rfl dX6_round_77 ?_
        refine lv_iload hx hb dX6_round_80 (lv_at hl 4 rfl) ?_
        refine rx_upv (fun u => (wGO a_g a_h a_q a_k a_p a_x a_s s_g ++ (wGT cI a_g s_o ++ (wP cI cJ a_h s_h ++ (wP cI cJ a_q u))))) hd hP hD hS hA ⟨[12, 13, 14, 15, 16, 17, 18, 19, 20, 21], [0, 1, 2, 3, 4, 5, 6, 7, 8, 9, 10, 11], [0, 1, 2, 3, 4, 5, 6, 7, 8, 9, 10, 11, 12, 13, 14, 15, 16, 17, 18, 19, 20, 21], wGO a_g a_h a_q a_k a_p a_x a_s s_g ++ (wGT cI a_g s_o ++ (wP cI cJ a_h s_h)), rfl, rfl, rfl, by decide, rfl, fun _ => rfl⟩ (fun v hv => va_runV (As := [.int x4]) (rest := []) hcf (c_X1_sendRound l dC dI cI cJ cQ fu a_q _  u73 x4 v hv) (cwV 1 hts gX6_round_X1_sendRound rfl rfl rfl cd_X1_sendRound ⟨(Nat.le_of_ble_eq_true rfl), (Nat.le_of_ble_eq_true rfl)⟩) (cq_U_V (q0 := 12) (ci := 0) hK hP hD [12, 13, 14, 15, 16, 17, 18, 19, 20, 21] rfl rfl rfl rfl) rfl rfl hl.1 rfl (lv_room (Nat.le_of_ble_eq_true rfl)) dX6_round_82 ⟨Nat.le_refl _, Nat.le_refl _⟩) (fun u82 hd H locs hP hD hS => ?_)
        refine lv_aload_n hx hb dX6_round_85 rfl (lv_at hl 0 rfl) ?_
        refine lv_iload_n hx hb dX6_round_86 rfl (lv_at hl 1 rfl) ?_
        refine lv_iload_n hx hb dX6_round_87 rfl (lv_at hl 3 rfl) ?_
        refine rx_upi (fun u => (wGO a_g a_h a_q a_k a_p a_x a_s s_g ++ (wGT cI a_g s_o ++ (wP cI cJ a_h s_h ++ (wP cI cJ a_q u))))) hd hP hD hS hA ⟨[0, 2, 3, 4, 5, 6, 7, 8, 9, 10, 11, 12, 13, 14, 15, 16, 17, 18, 19, 20, 21], [1], [1, 0, 2, 3, 4, 5, 6, 7, 8, 9, 10, 11, 12, 13, 14, 15, 16, 17, 18, 19, 20, 21], wGT cI a_g s_o, rfl, rfl, rfl, by decide, rfl, fun _ => rfl⟩ (fun v hv => va_runV (As := [.int x1, .int x3]) (rest := []) hcf (c_X6_dryOfTrial l dC dI cI cJ cQ fu a_g a_h a_q a_k a_p a_x a_s _  s_g s_h u82 x1 x3 v hv) (cwV 2 hts gX6_round_X6_dryOfTrial rfl rfl rfl cd_X6_dryOfTrial ⟨(Nat.le_of_ble_eq_true rfl), (Nat.le_of_ble_eq_true rfl)⟩) (cq_U_V (q0 := 0) (ci := 5) hK hP hD [0, 2, 3, 4, 5, 6, 7, 8, 9, 10, 11, 12, 13, 14, 15, 16, 17, 18, 19, 20, 21] rfl rfl rfl rfl) rfl rfl hl.1 rfl (lv_room (Nat.le_of_ble_eq_true rfl)) dX6_round_88 ⟨Nat.le_refl _, Nat.le_refl _⟩) (fun u88 hd H locs hP hD hS => ?_)
        refine lv_istore (lv' := [(5, .int u88.1), (0, .ref (a_g 0)), (1, .int x1), (2, .int x2), (3, .int x3), (4, .int x4)]) hx hb dX6_round_91 hl (Nat.le_of_ble_eq_true rfl) rfl (fun ls hl => ?_)
        refine lv_iload hx hb dX6_round_93 (lv_at hl 0 rfl) ?_
        refine lv_iload_n hx hb dX6_round_95 rfl (lv_at hl 4 rfl) ?_
        refine rx_icmp_ge hx hb 105 dX6_round_96 rfl hd (fun hd => ?_) (fun hd => ?_)
        · refine rx_iinc (lv' := fun z => (4, .int z) :: [(5, .int u88.1), (0, .ref (a_g 0)), (1, .int x1), (2, .int x2), (3, .int x3)]) hx hb (j := 5) dX6_round_105 hl rfl ki_1 hd (Nat.le_of_ble_eq_true rfl) (fun _ => rfl) (fun x4_105 hd ls hl => ?_)
          refine lv_goto (tgt := 41) hx hb dX6_round_108 rfl ?_
          exact k41 s_o u88.2 x2 x3 x4_105 hd _ _ _ hP hD hS (lv_sub hl [2, 3, 4, 5, 0] rfl)
        refine lv_iload hx hb dX6_round_99 (lv_at hl 0 rfl) ?_
        refine lv_istore_n (lv' := [(3, .int u88.1), (5, .int u88.1), (0, .ref (a_g 0)), (1, .int x1), (2, .int x2), (4, .int x4)]) hx hb dX6_round_101 rfl hl (Nat.le_of_ble_eq_true rfl) rfl (fun ls hl => ?_)
        refine lv_iload hx hb dX6_round_102 (lv_at hl 5 rfl) ?_
        refine lv_istore_n (lv' := [(2, .int x4), (3, .int u88.1), (5, .int u88.1), (0, .ref (a_g 0)), (1, .int x1), (4, .int x4)]) hx hb dX6_round_104 rfl hl (Nat.le_of_ble_eq_true rfl) rfl (fun ls hl => ?_)
        refine rx_iinc (lv' := fun z => (4, .int z) :: [(2, .int x4), (3, .int u88.1), (5, .int u88.1), (0, .ref (a_g 0)), (1, .int x1)]) hx hb (j := 5) dX6_round_105 hl rfl ki_1 hd (Nat.le_of_ble_eq_true rfl) (fun _ => rfl) (fun x4_105 hd ls hl => ?_)
        refine lv_goto (tgt := 41) hx hb dX6_round_108 rfl ?_
        exact k41 s_o u88.2 x4 u88.1 x4_105 hd _ _ _ hP hD hS (lv_sub hl [4, 5, 1, 2, 0] rfl)
    exact fun s_o s_q x2 x3 x4 => L fu s_o s_q x2 x3 x4
  refine lv_iload_n hx hb dX6_round_0 rfl (lv_at hl 1 rfl) ?_
  refine lv_iconst (v := 1) hx hb dX6_round_1 ki_1 ?_
  refine lv_bipush (v := 7) hx hb dX6_round_2 kb_7 ?_
  refine rx_roi hd (fun v hv => W.runS (As := [.int x1, .int (1 : Int32), .int (7 : Int32)]) (rest := []) hcf (c_X6_isWithin l dC dI cI cJ cQ fu    x1 (1 : Int32) (7 : Int32) v hv) (va_cwS 3 hts gX6_round_X6_isWithin rfl rfl rfl cd_X6_isWithin ⟨(Nat.le_of_ble_eq_true rfl), (Nat.le_of_ble_eq_true rfl)⟩) (cq_R_S hK hP [] rfl) rfl rfl hl.1 rfl (lv_room (Nat.le_of_ble_eq_true rfl)) dX6_round_4 ⟨Nat.le_refl _, Nat.le_refl _⟩) (fun u4 hd => ?_)
  refine rx_if_ne hx hb 16 dX6_round_7 rfl hd (fun hd => ?_) (fun hd => ?_)
  · refine lv_aload_n hx hb dX6_round_16 rfl (lv_at hl 0 rfl) ?_
    refine rx_get hx hb hts fiX6_round_X6 hown hK hP 0 rfl rfl 1 (Nat.le_of_ble_eq_true rfl) fl_16 rfl rfl dX6_round_17 ?_
    refine rx_get hx hb hts fiX6_round_X1 hown hK hP 2 rfl rfl 7 (Nat.le_of_ble_eq_true rfl) fl_84 rfl rfl dX6_round_20 ?_
    refine lv_iconst (v := 4) hx hb dX6_round_23 ki_4 ?_
    refine rx_icmp_ge hx hb 33 dX6_round_24 rfl hd (fun hd => ?_) (fun hd => ?_)
    · refine lv_iconst (v := 0) hx hb dX6_round_33 ki_0 ?_
      refine lv_istore_n (lv' := [(2, .int (0 : Int32)), (0, .ref (a_g 0)), (1, .int x1)]) hx hb dX6_round_34 rfl hl (Nat.le_of_ble_eq_true rfl) rfl (fun ls hl => ?_)
      refine lv_ldc hx hb hown kc_146 dX6_round_35 ?_
      refine lv_istore_n (lv' := [(3, .int (1000000 : Int32)), (2, .int (0 : Int32)), (0, .ref (a_g 0)), (1, .int x1)]) hx hb dX6_round_37 rfl hl (Nat.le_of_ble_eq_true rfl) rfl (fun ls hl => ?_)
      refine lv_iconst (v := 0) hx hb dX6_round_38 ki_0 ?_
      refine lv_istore (lv' := [(4, .int (0 : Int32)), (3, .int (1000000 : Int32)), (2, .int (0 : Int32)), (0, .ref (a_g 0)), (1, .int x1)]) hx hb dX6_round_39 hl (Nat.le_of_ble_eq_true rfl) rfl (fun ls hl => ?_)
      exact b41   x1 s_o s_q (0 : Int32) (1000000 : Int32) (0 : Int32) hd _ _ _ hP hD hS (lv_sub hl [3, 4, 2, 1, 0] rfl)
    refine lv_aload_n hx hb dX6_round_27 rfl (lv_at hl 0 rfl) ?_
    refine lv_iconst (v := 3) hx hb dX6_round_28 ki_3 ?_
    refine rx_upi (fun u => (wGO a_g a_h a_q a_k a_p a_x a_s s_g ++ (wGT cI a_g u ++ (wP cI cJ a_h s_h ++ (wP cI cJ a_q s_q))))) hd hP hD hS hA ⟨[0, 1], [2, 3, 4, 5, 6, 7, 8, 9, 10, 11, 12, 13, 14, 15, 16, 17, 18, 19, 20, 21], [20, 21, 0, 1, 2, 3, 4, 5, 6, 7, 8, 9, 10, 11, 12, 13, 14, 15, 16, 17, 18, 19], wP cI cJ a_h s_h ++ (wP cI cJ a_q s_q), rfl, rfl, rfl, by decide, rfl, fun _ => rfl⟩ (fun v hv => va_runV (As := [.int (3 : Int32)]) (rest := []) hcf (c_X6_finding l dC dI cI cJ cQ fu a_g a_h a_q a_k a_p a_x a_s _  s_g s_o (3 : Int32) v hv) (cwV 1 hts gX6_round_X6_finding rfl rfl rfl cd_X6_finding ⟨(Nat.le_of_ble_eq_true rfl), (Nat.le_of_ble_eq_true rfl)⟩) (cq_U_V (q0 := 0) (ci := 5) hK hP hD [0, 1] rfl rfl rfl rfl) rfl rfl hl.1 rfl (lv_room (Nat.le_of_ble_eq_true rfl)) dX6_round_29 ⟨Nat.le_refl _, Nat.le_refl _⟩) (fun u29 hd H locs hP hD hS => ?_)
    exact rx_retUi (u := (u29.2, s_q)) (w1 := (fun u : (Nat → Int32) × PS => (wGO a_g a_h a_q a_k a_p a_x a_s s_g ++ (wGT cI a_g u.1 ++ (wP cI cJ a_h s_h ++ (wP cI cJ a_q u.2)))))) hx hb hr hlocks hd hK hP hD hS dX6_round_32
  refine lv_aload_n hx hb dX6_round_10 rfl (lv_at hl 0 rfl) ?_
  refine lv_iconst (v := 0) hx hb dX6_round_11 ki_0 ?_
  refine rx_upi (fun u => (wGO a_g a_h a_q a_k a_p a_x a_s s_g ++ (wGT cI a_g u ++ (wP cI cJ a_h s_h ++ (wP cI cJ a_q s_q))))) hd hP hD hS hA ⟨[0, 1], [2, 3, 4, 5, 6, 7, 8, 9, 10, 11, 12, 13, 14, 15, 16, 17, 18, 19, 20, 21], [20, 21, 0, 1, 2, 3, 4, 5, 6, 7, 8, 9, 10, 11, 12, 13, 14, 15, 16, 17, 18, 19], wP cI cJ a_h s_h ++ (wP cI cJ a_q s_q), rfl, rfl, rfl, by decide, rfl, fun _ => rfl⟩ (fun v hv => va_runV (As := [.int (0 : Int32)]) (rest := []) hcf (c_X6_finding l dC dI cI cJ cQ fu a_g a_h a_q a_k a_p a_x a_s _  s_g s_o (0 : Int32) v hv) (cwV 1 hts gX6_round_X6_finding rfl rfl rfl cd_X6_finding ⟨(Nat.le_of_ble_eq_true rfl), (Nat.le_of_ble_eq_true rfl)⟩) (cq_U_V (q0 := 0) (ci := 5) hK hP hD [0, 1] rfl rfl rfl rfl) rfl rfl hl.1 rfl (lv_room (Nat.le_of_ble_eq_true rfl)) dX6_round_12 ⟨Nat.le_refl _, Nat.le_refl _⟩) (fun u12 hd H locs hP hD hS => ?_)
  exact rx_retUi (u := (u12.2, s_q)) (w1 := (fun u : (Nat → Int32) × PS => (wGO a_g a_h a_q a_k a_p a_x a_s s_g ++ (wGT cI a_g u.1 ++ (wP cI cJ a_h s_h ++ (wP cI cJ a_q u.2)))))) hx hb hr hlocks hd hK hP hD hS dX6_round_15
