theorem fiX7_read_X7 : ∀ w ∈ wsX70, w ∈ wsX7_read := mem_r _ [78, 79, 80, 81, 82, 83, 84, 85, 86, 87, 88, 89, 90, 91, 92, 93, 94, 95] rfl
set_option maxHeartbeats 8000000 in
set_option maxRecDepth 100000 in
theorem c_X7_read (l : Launch) (dC : Nat → ClassId) (dI : Nat → Nat → Nat) (cI cJ cQ : ClassId) (fu : Nat) (a_m : Nat → Nat) (sz : Nat) (s_m : MS) (x1 : Int32) (x2 : Int32) (r : Int32 × MS) (hd : fX7_read fu  s_m x1 x2 = some r) : mUi l yX7_read wsX7_read (gRm 7 160) [.ref (a_m 0), .int x1, .int x2] (dC, dI) vwCl (gty cI cJ cQ) (wM cI cJ a_m s_m) sz (fun u : MS => (wM cI cJ a_m u)) r := by
  refine Met.ofW (cc := cX7_read) (maxL := 6) (ret := (some .int)) (by decide) rfl ?_
  intro p e s m args below meth c s₁ B hml hv
  obtain ⟨hav, hsz, hP, hK, hD0⟩ := hv
  subst hsz
  have hD := hD0.self (sz := s.heap.size)
  generalize hAe : va_A (wM cI cJ a_m s_m) s.heap.size = A at hD ⊢
  have hA : ∀ q : Nat, s.heap.size ≤ q → A q := fun q h => by rw [← hAe]; exact Or.inr h
  have hS : va_S A s.heap s.heap [] := va_S.rf
  have hx := B.exec
  have hb := B.bytes
  have hr := B.returns
  have hts := atoms_spec (ws := wsX7_read) B.pre
  have hown : s.vm.findClass RX7 = some m.cls := findClass_of_methodNamed B.named
  have hlocks := B.notSynchronized
  have hcf : CallFix p m c cX7_read 6 s args wsX7_read RX7 := ⟨hx, hb, hml, hown, hts⟩
  have fl_7 := hts (.fieldLink RX7 7 "BucketGiftModel" "s" "[I") (List.mem_of_getElem? (i := 1) rfl)
  have hg : entryFrame m args 6 = entryFrame m ([.ref (a_m 0), .int x1, .int x2] : List Value).toArray 6 := by rw [hav]
  rw [hg, lg_entry_eq]
  have hl := lv_entry ([.ref (a_m 0), .int x1, .int x2]) (n := 6) (Nat.le_of_ble_eq_true rfl)
  generalize (lg_sl ([.ref (a_m 0), .int x1, .int x2]) ++ List.replicate (6 - (lg_sl ([.ref (a_m 0), .int x1, .int x2])).length) Slot.unset).toArray = ls at hl ⊢
  have hl : lv_has ls 6 [(0, .ref (a_m 0)), (1, .int x1), (2, .int x2)] := hl
  clear hg
  unfold fX7_read at hd
  have b67 : ∀ (x1 : Int32) (x2 : Int32), ∀ (K27 : MS → Int32 → Int32 → Option (Int32 × MS)) (k27 : ∀ (s_m : MS) (x4 : Int32) (x5 : Int32), K27 s_m x4 x5 = some r → bk_U p l e (headSpec wsX7_read (gRm 7 160)).room s m args below meth c (qUi below args s (dC, dI) vwCl (gty cI cJ cQ) A (fun u : MS => (wM cI cJ a_m u)) r) (dC, dI) vwCl A 6 (wM cI cJ a_m s_m) 27 [(0, .ref (a_m 0)), (1, .int x1), (2, .int x2), (4, .int x4), (5, .int x5)] []), ∀ (s_m : MS) (x5 : Int32) (y0 : Int32) (y1 : Int32), fX7_read_b67 fu  K27 x1 x2 s_m x5 y0 y1 = some r → bk_U p l e (headSpec wsX7_read (gRm 7 160)).room s m args below meth c (qUi below args s (dC, dI) vwCl (gty cI cJ cQ) A (fun u : MS => (wM cI cJ a_m u)) r) (dC, dI) vwCl A 6 (wM cI cJ a_m s_m) 67 [(0, .ref (a_m 0)), (1, .int x1), (2, .int x2), (5, .int x5)] [.int y0, .int y1, .ref (a_m 0)] := by
    intro x1 x2
    intro K27 k27
    intro s_m x5 y0 y1 hd
    intro H locs ls hP hD hS hl
    unfold fX7_read_b67 at hd
    refine lv_iadd hx hb dX7_read_67 ?_
    refine rx_upi1 hd hD hS hA (fun v hv => va_runV (As := [.int (y1 + y0)]) (rest := []) hcf (c_X7_takesBack l dC dI cI cJ cQ fu a_m _  s_m (y1 + y0) v hv) (cwV 1 hts gX7_read_X7_takesBack rfl rfl rfl cd_X7_takesBack ⟨(Nat.le_of_ble_eq_true rfl), (Nat.le_of_ble_eq_true rfl)⟩) (cq_U_V1 (q0 := 0) (ci := 6) hK hP hD rfl rfl) rfl rfl hl.1 rfl (lv_room (Nat.le_of_ble_eq_true rfl)) dX7_read_68 ⟨Nat.le_refl _, Nat.le_refl _⟩) (fun u68 hd H locs hP hD hS => ?_)
    refine lv_istore (lv' := [(4, .int u68.1), (0, .ref (a_m 0)), (1, .int x1), (2, .int x2), (5, .int x5)]) hx hb dX7_read_71 hl (Nat.le_of_ble_eq_true rfl) rfl (fun ls hl => ?_)
    refine rx_iinc (lv' := fun z => (5, .int z) :: [(4, .int u68.1), (0, .ref (a_m 0)), (1, .int x1), (2, .int x2)]) hx hb (j := 4) dX7_read_73 hl rfl ki_1 hd (Nat.le_of_ble_eq_true rfl) (fun _ => rfl) (fun x5_73 hd ls hl => ?_)
    refine lv_goto (tgt := 27) hx hb dX7_read_76 rfl ?_
    exact k27 u68.2 u68.1 x5_73 hd _ _ _ hP hD hS (lv_sub hl [2, 3, 4, 1, 0] rfl)
  have b27 : ∀ (x1 : Int32) (x2 : Int32) (s_m : MS) (x4 : Int32) (x5 : Int32), fX7_read_b27 fu    x1 x2 s_m x4 x5 = some r → bk_U p l e (headSpec wsX7_read (gRm 7 160)).room s m args below meth c (qUi below args s (dC, dI) vwCl (gty cI cJ cQ) A (fun u : MS => (wM cI cJ a_m u)) r) (dC, dI) vwCl A 6 (wM cI cJ a_m s_m) 27 [(0, .ref (a_m 0)), (1, .int x1), (2, .int x2), (4, .int x4), (5, .int x5)] [] := by
    intro x1 x2
    have L : ∀ (n : Nat) (s_m : MS) (x4 : Int32) (x5 : Int32), g_lp (fun _ _ _ => none) (fX7_read_b27B fu    x1 x2) n s_m x4 x5 = some r → bk_U p l e (headSpec wsX7_read (gRm 7 160)).room s m args below meth c (qUi below args s (dC, dI) vwCl (gty cI cJ cQ) A (fun u : MS => (wM cI cJ a_m u)) r) (dC, dI) vwCl A 6 (wM cI cJ a_m s_m) 27 [(0, .ref (a_m 0)), (1, .int x1), (2, .int x2), (4, .int x4), (5, .int x5)] [] := by
      intro n
      induction n with
      | zero => intro s_m x4 x5 hd; exact absurd hd (by intro h; cases h)
      | succ n k27 =>
        intro s_m x4 x5 hd
        intro H locs ls hP hD hS hl
        have hd : fX7_read_b27B fu    x1 x2 (g_lp (fun _ _ _ => none) (fX7_read_b27B fu    x1 x2) n) s_m x4 x5 = some r := hd
        unfold fX7_read_b27B at hd
        refine lv_iload hx hb dX7_read_27 (lv_at hl 4 rfl) ?_
        refine lv_aload_n hx hb dX7_read_29 rfl (lv_at hl 0 rfl) ?_
        refine rx_get hx hb hts fiX7_read_X7 hown hK hP 0 rfl rfl 0 (Nat.le_of_ble_eq_true rfl) fl_7 rfl rfl dX7_read_30 ?_
        refine lv_iconst (v := 0) hx hb dX7_read_33 ki_0 ?_
        refine rx_iald hx hb hK hP 1 0 rfl rfl hd dX7_read_34 (fun v34 hd => ?_)
        refine rx_icmp_ge hx hb 79 dX7_read_35 rfl hd (fun hd => ?_) (fun hd => ?_)
        · refine lv_iload hx hb dX7_read_79 (lv_at hl 3 rfl) ?_
          exact rx_retUi (u := s_m) (w1 := (fun u : MS => (wM cI cJ a_m u))) hx hb hr hlocks hd hK hP hD hS dX7_read_81
        refine lv_aload_n hx hb dX7_read_38 rfl (lv_at hl 0 rfl) ?_
        refine rx_get hx hb hts fiX7_read_X7 hown hK hP 0 rfl rfl 0 (Nat.le_of_ble_eq_true rfl) fl_7 rfl rfl dX7_read_39 ?_
        refine lv_iload_n hx hb dX7_read_42 rfl (lv_at hl 2 rfl) ?_
        refine lv_iconst (v := 3) hx hb dX7_read_43 ki_3 ?_
        refine rx_roi hd (fun v hv => W.runS (As := [.int x2, .int (3 : Int32)]) (rest := [.ref (a_m 1)]) hcf (c_X7_field l dC dI cI cJ cQ fu    x2 (3 : Int32) v hv) (va_cwS 2 hts gX7_read_X7_field rfl rfl rfl cd_X7_field ⟨(Nat.le_of_ble_eq_true rfl), (Nat.le_of_ble_eq_true rfl)⟩) (cq_R_S hK hP [] rfl) rfl rfl hl.1 rfl (lv_room (Nat.le_of_ble_eq_true rfl)) dX7_read_44 ⟨Nat.le_refl _, Nat.le_refl _⟩) (fun u44 hd => ?_)
        refine lv_iload hx hb dX7_read_47 (lv_at hl 4 rfl) ?_
        refine rx_iast (wM cI cJ a_m (muS s_m (Int32.toNatClampNeg u44) x5)) hx hb hK hP hD hS 1 0 rfl rfl hd (wM_uS ..) dX7_read_49 (fun hd H locs hP hD hS => ?_)
        refine lv_aload_n hx hb dX7_read_50 rfl (lv_at hl 0 rfl) ?_
        refine lv_iload hx hb dX7_read_51 (lv_at hl 3 rfl) ?_
        refine lv_aload_n hx hb dX7_read_53 rfl (lv_at hl 0 rfl) ?_
        refine lv_iload_n hx hb dX7_read_54 rfl (lv_at hl 1 rfl) ?_
        refine lv_iload_n hx hb dX7_read_55 rfl (lv_at hl 2 rfl) ?_
        refine rx_upi1 hd hD hS hA (fun v hv => va_runV (As := [.int x1, .int x2]) (rest := [.int x4, .ref (a_m 0)]) hcf (c_X7_isBook l dC dI cI cJ cQ fu a_m _  (muS s_m (Int32.toNatClampNeg u44) x5) x1 x2 v hv) (cwV 2 hts gX7_read_X7_isBook rfl rfl rfl cd_X7_isBook ⟨(Nat.le_of_ble_eq_true rfl), (Nat.le_of_ble_eq_true rfl)⟩) (cq_U_V1 (q0 := 0) (ci := 6) hK hP hD rfl rfl) rfl rfl hl.1 rfl (lv_room (Nat.le_of_ble_eq_true rfl)) dX7_read_56 ⟨Nat.le_refl _, Nat.le_refl _⟩) (fun u56 hd H locs hP hD hS => ?_)
        refine rx_if_eq hx hb 66 dX7_read_59 rfl hd (fun hd => ?_) (fun hd => ?_)
        · refine lv_iconst (v := 0) hx hb dX7_read_66 ki_0 ?_
          exact b67 x1 x2 _ k27 u56.2 x5 (0 : Int32) x4 hd _ _ _ hP hD hS (lv_sub hl [0, 1, 2, 4] rfl)
        refine lv_iconst (v := 1) hx hb dX7_read_62 ki_1 ?_
        refine lv_goto (tgt := 67) hx hb dX7_read_63 rfl ?_
        exact b67 x1 x2 _ k27 u56.2 x5 (1 : Int32) x4 hd _ _ _ hP hD hS (lv_sub hl [0, 1, 2, 4] rfl)
    exact fun s_m x4 x5 => L fu s_m x4 x5
  refine lv_aload_n hx hb dX7_read_0 rfl (lv_at hl 0 rfl) ?_
  refine lv_iload_n hx hb dX7_read_1 rfl (lv_at hl 1 rfl) ?_
  refine lv_iload_n hx hb dX7_read_2 rfl (lv_at hl 2 rfl) ?_
  refine rx_roi hd (fun v hv => W.runV (As := [.int x1, .int x2]) (rest := []) hcf (c_X7_wrongBook l dC dI cI cJ cQ fu a_m  s_m x1 x2 v hv) (cwV 2 hts gX7_read_X7_wrongBook rfl rfl rfl cd_X7_wrongBook ⟨(Nat.le_of_ble_eq_true rfl), (Nat.le_of_ble_eq_true rfl)⟩) (cq_R_V1 (q0 := 0) (ci := 6) hK hP rfl rfl) rfl rfl hl.1 rfl (lv_room (Nat.le_of_ble_eq_true rfl)) dX7_read_3 ⟨Nat.le_refl _, Nat.le_refl _⟩) (fun u3 hd => ?_)
  refine lv_istore_n (lv' := [(3, .int u3), (0, .ref (a_m 0)), (1, .int x1), (2, .int x2)]) hx hb dX7_read_6 rfl hl (Nat.le_of_ble_eq_true rfl) rfl (fun ls hl => ?_)
  refine lv_iload_n hx hb dX7_read_7 rfl (lv_at hl 0 rfl) ?_
  refine rx_if_eq hx hb 17 dX7_read_8 rfl hd (fun hd => ?_) (fun hd => ?_)
  · refine lv_aload_n hx hb dX7_read_17 rfl (lv_at hl 1 rfl) ?_
    refine rx_upv1 hd hD hS hA (fun v hv => va_runV (As := []) (rest := []) hcf (c_X7_laysAside l dC dI cI cJ cQ fu a_m _  s_m  v hv) (cwV 0 hts gX7_read_X7_laysAside rfl rfl rfl cd_X7_laysAside ⟨(Nat.le_of_ble_eq_true rfl), (Nat.le_of_ble_eq_true rfl)⟩) (cq_U_V1 (q0 := 0) (ci := 6) hK hP hD rfl rfl) rfl rfl hl.1 rfl (lv_room (Nat.le_of_ble_eq_true rfl)) dX7_read_18 ⟨Nat.le_refl _, Nat.le_refl _⟩) (fun u18 hd H locs hP hD hS => ?_)
    refine lv_iconst (v := 0) hx hb dX7_read_21 ki_0 ?_
    refine lv_istore (lv' := [(4, .int (0 : Int32)), (3, .int u3), (0, .ref (a_m 0)), (1, .int x1), (2, .int x2)]) hx hb dX7_read_22 hl (Nat.le_of_ble_eq_true rfl) rfl (fun ls hl => ?_)
    refine lv_iconst (v := 0) hx hb dX7_read_24 ki_0 ?_
    refine lv_istore (lv' := [(5, .int (0 : Int32)), (4, .int (0 : Int32)), (3, .int u3), (0, .ref (a_m 0)), (1, .int x1), (2, .int x2)]) hx hb dX7_read_25 hl (Nat.le_of_ble_eq_true rfl) rfl (fun ls hl => ?_)
    exact b27   x1 x2 u18 (0 : Int32) (0 : Int32) hd _ _ _ hP hD hS (lv_sub hl [3, 4, 5, 1, 0] rfl)
  refine lv_aload_n hx hb dX7_read_11 rfl (lv_at hl 1 rfl) ?_
  refine lv_iload_n hx hb dX7_read_12 rfl (lv_at hl 0 rfl) ?_
  refine rx_upi1 hd hD hS hA (fun v hv => va_runV (As := [.int u3]) (rest := []) hcf (c_X7_finds l dC dI cI cJ cQ fu a_m _  s_m u3 v hv) (cwV 1 hts gX7_read_X7_finds rfl rfl rfl cd_X7_finds ⟨(Nat.le_of_ble_eq_true rfl), (Nat.le_of_ble_eq_true rfl)⟩) (cq_U_V1 (q0 := 0) (ci := 6) hK hP hD rfl rfl) rfl rfl hl.1 rfl (lv_room (Nat.le_of_ble_eq_true rfl)) dX7_read_13 ⟨Nat.le_refl _, Nat.le_refl _⟩) (fun u13 hd H locs hP hD hS => ?_)
  exact rx_retUi (u := u13.2) (w1 := (fun u : MS => (wM cI cJ a_m u))) hx hb hr hlocks hd hK hP hD hS dX7_read_16
theorem fiX7_image_X7 : ∀ w ∈ wsX70, w ∈ wsX7_image := mem_r _ [4, 5, 6, 7, 8, 9, 10, 11, 12, 13, 14, 15, 16, 17, 18, 19, 20, 21] rfl
set_option maxHeartbeats 8000000 in
set_option maxRecDepth 100000 in
theorem c_X7_image (l : Launch) (dC : Nat → ClassId) (dI : Nat → Nat → Nat) (cI cJ cQ : ClassId) (fu : Nat) (a_m : Nat → Nat) (sz : Nat) (s_m : MS)  (r : Int32 × MS) (hd : fX7_image fu  s_m  = some r) : mUi l yX7_image wsX7_image (gRm 0 0) [.ref (a_m 0)] (dC, dI) vwCl (gty cI cJ cQ) (wM cI cJ a_m s_m) sz (fun u : MS => (wM cI cJ a_m u)) r := by
  refine Met.ofW (cc := cX7_image) (maxL := 2) (ret := (some .int)) (by decide) rfl ?_
  intro p e s m args below meth c s₁ B hml hv
  obtain ⟨hav, hsz, hP, hK, hD0⟩ := hv
  subst hsz
  have hD := hD0.self (sz := s.heap.size)
  generalize hAe : va_A (wM cI cJ a_m s_m) s.heap.size = A at hD ⊢
  have hA : ∀ q : Nat, s.heap.size ≤ q → A q := fun q h => by rw [← hAe]; exact Or.inr h
  have hS : va_S A s.heap s.heap [] := va_S.rf
  have hx := B.exec
  have hb := B.bytes
  have hr := B.returns
  have hts := atoms_spec (ws := wsX7_image) B.pre
  have hown : s.vm.findClass RX7 = some m.cls := findClass_of_methodNamed B.named
  have hlocks := B.notSynchronized
  have hcf : CallFix p m c cX7_image 2 s args wsX7_image RX7 := ⟨hx, hb, hml, hown, hts⟩
  have fl_293 := hts (.fieldLink RX7 293 "BucketGiftModel" "isKept" "Z") (List.mem_of_getElem? (i := 3) rfl)
  have fl_13 := hts (.fieldLink RX7 13 "BucketGiftModel" "keptS" "[I") (List.mem_of_getElem? (i := 1) rfl)
  have fl_7 := hts (.fieldLink RX7 7 "BucketGiftModel" "s" "[I") (List.mem_of_getElem? (i := 2) rfl)
  have hg : entryFrame m args 2 = entryFrame m ([.ref (a_m 0)] : List Value).toArray 2 := by rw [hav]
  rw [hg, lg_entry_eq]
  have hl := lv_entry ([.ref (a_m 0)]) (n := 2) (Nat.le_of_ble_eq_true rfl)
  generalize (lg_sl ([.ref (a_m 0)]) ++ List.replicate (2 - (lg_sl ([.ref (a_m 0)])).length) Slot.unset).toArray = ls at hl ⊢
  have hl : lv_has ls 2 [(0, .ref (a_m 0))] := hl
  clear hg
  unfold fX7_image at hd
  have b2 : ∀ (s_m : MS) (x1 : Int32), fX7_image_b2 fu     s_m x1 = some r → bk_U p l e (headSpec wsX7_image (gRm 0 0)).room s m args below meth c (qUi below args s (dC, dI) vwCl (gty cI cJ cQ) A (fun u : MS => (wM cI cJ a_m u)) r) (dC, dI) vwCl A 2 (wM cI cJ a_m s_m) 2 [(0, .ref (a_m 0)), (1, .int x1)] [] := by
    have L : ∀ (n : Nat) (s_m : MS) (x1 : Int32), g_lp (fun _ _ => none) (fX7_image_b2B fu    ) n s_m x1 = some r → bk_U p l e (headSpec wsX7_image (gRm 0 0)).room s m args below meth c (qUi below args s (dC, dI) vwCl (gty cI cJ cQ) A (fun u : MS => (wM cI cJ a_m u)) r) (dC, dI) vwCl A 2 (wM cI cJ a_m s_m) 2 [(0, .ref (a_m 0)), (1, .int x1)] [] := by
      intro n
      induction n with
      | zero => intro s_m x1 hd; exact absurd hd (by intro h; cases h)
      | succ n k2 =>
        intro s_m x1 hd
        intro H locs ls hP hD hS hl
        have hd : fX7_image_b2B fu     (g_lp (fun _ _ => none) (fX7_image_b2B fu    ) n) s_m x1 = some r := hd
        unfold fX7_image_b2B at hd
        refine lv_iload_n hx hb dX7_image_2 rfl (lv_at hl 1 rfl) ?_
        refine lv_bipush (v := 53) hx hb dX7_image_3 kb_53 ?_
        refine rx_icmp_ge hx hb 26 dX7_image_5 rfl hd (fun hd => ?_) (fun hd => ?_)
        · refine lv_aload_n hx hb dX7_image_26 rfl (lv_at hl 0 rfl) ?_
          refine lv_iconst (v := 1) hx hb dX7_image_27 ki_1 ?_
          refine rx_putz (wM cI cJ a_m (msIsKept s_m (1 : Int32))) hx hb hts fiX7_image_X7 tyX7 tyX7_ok nmX7 hown hK hP hD hS 0 rfl rfl 5 (Nat.le_of_ble_eq_true rfl) fl_293 rfl rfl rfl (Nat.le_of_ble_eq_true rfl) hd (wM_sIsKept ..) dX7_image_28 (fun hd H locs hP hD hS => ?_)
          refine lv_iconst (v := 1) hx hb dX7_image_31 ki_1 ?_
          exact rx_retUi (u := (msIsKept s_m (1 : Int32))) (w1 := (fun u : MS => (wM cI cJ a_m u))) hx hb hr hlocks hd hK hP hD hS dX7_image_32
        refine lv_aload_n hx hb dX7_image_8 rfl (lv_at hl 0 rfl) ?_
        refine rx_get hx hb hts fiX7_image_X7 hown hK hP 0 rfl rfl 1 (Nat.le_of_ble_eq_true rfl) fl_13 rfl rfl dX7_image_9 ?_
        refine lv_iload_n hx hb dX7_image_12 rfl (lv_at hl 1 rfl) ?_
        refine lv_aload_n hx hb dX7_image_13 rfl (lv_at hl 0 rfl) ?_
        refine rx_get hx hb hts fiX7_image_X7 hown hK hP 0 rfl rfl 0 (Nat.le_of_ble_eq_true rfl) fl_7 rfl rfl dX7_image_14 ?_
        refine lv_iload_n hx hb dX7_image_17 rfl (lv_at hl 1 rfl) ?_
        refine rx_iald hx hb hK hP 1 0 rfl rfl hd dX7_image_18 (fun v18 hd => ?_)
        refine rx_iast (wM cI cJ a_m (muKeptS s_m (Int32.toNatClampNeg x1) v18)) hx hb hK hP hD hS 2 0 rfl rfl hd (wM_uKeptS ..) dX7_image_19 (fun hd H locs hP hD hS => ?_)
        refine rx_iinc (lv' := fun z => (1, .int z) :: [(0, .ref (a_m 0))]) hx hb (j := 1) dX7_image_20 hl rfl ki_1 hd (Nat.le_of_ble_eq_true rfl) (fun _ => rfl) (fun x1_20 hd ls hl => ?_)
        refine lv_goto (tgt := 2) hx hb dX7_image_23 rfl ?_
        exact k2 (muKeptS s_m (Int32.toNatClampNeg x1) v18) x1_20 hd _ _ _ hP hD hS (lv_sub hl [1, 0] rfl)
    exact fun s_m x1 => L fu s_m x1
  refine lv_iconst (v := 0) hx hb dX7_image_0 ki_0 ?_
  refine lv_istore_n (lv' := [(1, .int (0 : Int32)), (0, .ref (a_m 0))]) hx hb dX7_image_1 rfl hl (Nat.le_of_ble_eq_true rfl) rfl (fun ls hl => ?_)
  exact b2   s_m (0 : Int32) hd _ _ _ hP hD hS (lv_sub hl [1, 0] rfl)
theorem fiX7_undo_X7 : ∀ w ∈ wsX70, w ∈ wsX7_undo := mem_r _ [12, 13, 14, 15, 16, 17, 18, 19, 20, 21, 22, 23, 24, 25, 26, 27, 28, 29] rfl
set_option maxHeartbeats 8000000 in
set_option maxRecDepth 100000 in
theorem c_X7_undo (l : Launch) (dC : Nat → ClassId) (dI : Nat → Nat → Nat) (cI cJ cQ : ClassId) (fu : Nat) (a_m : Nat → Nat) (sz : Nat) (s_m : MS)  (r : Int32 × MS) (hd : fX7_undo fu  s_m  = some r) : mUi l yX7_undo wsX7_undo (gRm 1 21) [.ref (a_m 0)] (dC, dI) vwCl (gty cI cJ cQ) (wM cI cJ a_m s_m) sz (fun u : MS => (wM cI cJ a_m u)) r := by
  refine Met.ofW (cc := cX7_undo) (maxL := 2) (ret := (some .int)) (by decide) rfl ?_
  intro p e s m args below meth c s₁ B hml hv
  obtain ⟨hav, hsz, hP, hK, hD0⟩ := hv
  subst hsz
  have hD := hD0.self (sz := s.heap.size)
  generalize hAe : va_A (wM cI cJ a_m s_m) s.heap.size = A at hD ⊢
  have hA : ∀ q : Nat, s.heap.size ≤ q → A q := fun q h => by rw [← hAe]; exact Or.inr h
  have hS : va_S A s.heap s.heap [] := va_S.rf
  have hx := B.exec
  have hb := B.bytes
  have hr := B.returns
  have hts := atoms_spec (ws := wsX7_undo) B.pre
  have hown : s.vm.findClass RX7 = some m.cls := findClass_of_methodNamed B.named
  have hlocks := B.notSynchronized
  have hcf : CallFix p m c cX7_undo 2 s args wsX7_undo RX7 := ⟨hx, hb, hml, hown, hts⟩
  have fl_293 := hts (.fieldLink RX7 293 "BucketGiftModel" "isKept" "Z") (List.mem_of_getElem? (i := 1) rfl)
  have fl_7 := hts (.fieldLink RX7 7 "BucketGiftModel" "s" "[I") (List.mem_of_getElem? (i := 3) rfl)
  have fl_13 := hts (.fieldLink RX7 13 "BucketGiftModel" "keptS" "[I") (List.mem_of_getElem? (i := 4) rfl)
  have kc_147 := hts (.constant RX7 147 (-1000000004)) (List.mem_of_getElem? (i := 2) rfl)
  have hg : entryFrame m args 2 = entryFrame m ([.ref (a_m 0)] : List Value).toArray 2 := by rw [hav]
  rw [hg, lg_entry_eq]
  have hl := lv_entry ([.ref (a_m 0)]) (n := 2) (Nat.le_of_ble_eq_true rfl)
  generalize (lg_sl ([.ref (a_m 0)]) ++ List.replicate (2 - (lg_sl ([.ref (a_m 0)])).length) Slot.unset).toArray = ls at hl ⊢
  have hl : lv_has ls 2 [(0, .ref (a_m 0))] := hl
  clear hg
  unfold fX7_undo at hd
  have b16 : ∀ (s_m : MS) (x1 : Int32), fX7_undo_b16 fu     s_m x1 = some r → bk_U p l e (headSpec wsX7_undo (gRm 1 21)).room s m args below meth c (qUi below args s (dC, dI) vwCl (gty cI cJ cQ) A (fun u : MS => (wM cI cJ a_m u)) r) (dC, dI) vwCl A 2 (wM cI cJ a_m s_m) 16 [(0, .ref (a_m 0)), (1, .int x1)] [] := by
    have L : ∀ (n : Nat) (s_m : MS) (x1 : Int32), g_lp (fun _ _ => none) (fX7_undo_b16B fu    ) n s_m x1 = some r → bk_U p l e (headSpec wsX7_undo (gRm 1 21)).room s m args below meth c (qUi below args s (dC, dI) vwCl (gty cI cJ cQ) A (fun u : MS => (wM cI cJ a_m u)) r) (dC, dI) vwCl A 2 (wM cI cJ a_m s_m) 16 [(0, .ref (a_m 0)), (1, .int x1)] [] := by
      intro n
      induction n with
      | zero => intro s_m x1 hd; exact absurd hd (by intro h; cases h)
      | succ n k16 =>
        intro s_m x1 hd
        intro H locs ls hP hD hS hl
        have hd : fX7_undo_b16B fu     (g_lp (fun _ _ => none) (fX7_undo_b16B fu    ) n) s_m x1 = some r := hd
        unfold fX7_undo_b16B at hd
        refine lv_iload_n hx hb dX7_undo_16 rfl (lv_at hl 1 rfl) ?_
        refine lv_bipush (v := 53) hx hb dX7_undo_17 kb_53 ?_
        refine rx_icmp_ge hx hb 40 dX7_undo_19 rfl hd (fun hd => ?_) (fun hd => ?_)
        · refine lv_aload_n hx hb dX7_undo_40 rfl (lv_at hl 0 rfl) ?_
          refine rx_get hx hb hts fiX7_undo_X7 hown hK hP 0 rfl rfl 0 (Nat.le_of_ble_eq_true rfl) fl_7 rfl rfl dX7_undo_41 ?_
          refine lv_iconst (v := 0) hx hb dX7_undo_44 ki_0 ?_
          refine rx_iald hx hb hK hP 1 0 rfl rfl hd dX7_undo_45 (fun v45 hd => ?_)
          exact rx_retUi (u := s_m) (w1 := (fun u : MS => (wM cI cJ a_m u))) hx hb hr hlocks hd hK hP hD hS dX7_undo_46
        refine lv_aload_n hx hb dX7_undo_22 rfl (lv_at hl 0 rfl) ?_
        refine rx_get hx hb hts fiX7_undo_X7 hown hK hP 0 rfl rfl 0 (Nat.le_of_ble_eq_true rfl) fl_7 rfl rfl dX7_undo_23 ?_
        refine lv_iload_n hx hb dX7_undo_26 rfl (lv_at hl 1 rfl) ?_
        refine lv_aload_n hx hb dX7_undo_27 rfl (lv_at hl 0 rfl) ?_
        refine rx_get hx hb hts fiX7_undo_X7 hown hK hP 0 rfl rfl 1 (Nat.le_of_ble_eq_true rfl) fl_13 rfl rfl dX7_undo_28 ?_
        refine lv_iload_n hx hb dX7_undo_31 rfl (lv_at hl 1 rfl) ?_
        refine rx_iald hx hb hK hP 2 0 rfl rfl hd dX7_undo_32 (fun v32 hd => ?_)
        refine rx_iast (wM cI cJ a_m (muS s_m (Int32.toNatClampNeg x1) v32)) hx hb hK hP hD hS 1 0 rfl rfl hd (wM_uS ..) dX7_undo_33 (fun hd H locs hP hD hS => ?_)
        refine rx_iinc (lv' := fun z => (1, .int z) :: [(0, .ref (a_m 0))]) hx hb (j := 1) dX7_undo_34 hl rfl ki_1 hd (Nat.le_of_ble_eq_true rfl) (fun _ => rfl) (fun x1_34 hd ls hl => ?_)
        refine lv_goto (tgt := 16) hx hb dX7_undo_37 rfl ?_
        exact k16 (muS s_m (Int32.toNatClampNeg x1) v32) x1_34 hd _ _ _ hP hD hS (lv_sub hl [1, 0] rfl)
    exact fun s_m x1 => L fu s_m x1
  refine lv_aload_n hx hb dX7_undo_0 rfl (lv_at hl 0 rfl) ?_
  refine rx_get hx hb hts fiX7_undo_X7 hown hK hP 0 rfl rfl 5 (Nat.le_of_ble_eq_true rfl) fl_293 rfl rfl dX7_undo_1 ?_
  refine rx_if_ne hx hb 14 dX7_undo_4 rfl hd (fun hd => ?_) (fun hd => ?_)
  · refine lv_iconst (v := 0) hx hb dX7_undo_14 ki_0 ?_
    refine lv_istore_n (lv' := [(1, .int (0 : Int32)), (0, .ref (a_m 0))]) hx hb dX7_undo_15 rfl hl (Nat.le_of_ble_eq_true rfl) rfl (fun ls hl => ?_)
    exact b16   s_m (0 : Int32) hd _ _ _ hP hD hS (lv_sub hl [1, 0] rfl)
  refine lv_aload_n hx hb dX7_undo_7 rfl (lv_at hl 0 rfl) ?_
  refine lv_ldc hx hb hown kc_147 dX7_undo_8 ?_
  refine rx_upi1 hd hD hS hA (fun v hv => va_runV (As := [.int (-1000000004 : Int32)]) (rest := []) hcf (c_X7_finds l dC dI cI cJ cQ fu a_m _  s_m (-1000000004 : Int32) v hv) (cwV 1 hts gX7_undo_X7_finds rfl rfl rfl cd_X7_finds ⟨(Nat.le_of_ble_eq_true rfl), (Nat.le_of_ble_eq_true rfl)⟩) (cq_U_V1 (q0 := 0) (ci := 6) hK hP hD rfl rfl) rfl rfl hl.1 rfl (lv_room (Nat.le_of_ble_eq_true rfl)) dX7_undo_10 ⟨Nat.le_refl _, Nat.le_refl _⟩) (fun u10 hd H locs hP hD hS => ?_)
  exact rx_retUi (u := u10.2) (w1 := (fun u : MS => (wM cI cJ a_m u))) hx hb hr hlocks hd hK hP hD hS dX7_undo_13
theorem fiX7_tear_X7 : ∀ w ∈ wsX70, w ∈ wsX7_tear := mem_r _ [2, 3, 4, 5, 6, 7, 8, 9, 10, 11, 12, 13, 14, 15, 16, 17, 18, 19] rfl
set_option maxHeartbeats 8000000 in
set_option maxRecDepth 100000 in
theorem c_X7_tear (l : Launch) (dC : Nat → ClassId) (dI : Nat → Nat → Nat) (cI cJ cQ : ClassId) (fu : Nat) (a_m : Nat → Nat) (sz : Nat) (s_m : MS)  (r : Int32 × MS) (hd : fX7_tear fu  s_m  = some r) : mUi l yX7_tear wsX7_tear (gRm 0 0) [.ref (a_m 0)] (dC, dI) vwCl (gty cI cJ cQ) (wM cI cJ a_m s_m) sz (fun u : MS => (wM cI cJ a_m u)) r := by
  refine Met.ofW (cc := cX7_tear) (maxL := 2) (ret := (some .int)) (by decide) rfl ?_
  intro p e s m args below meth c s₁ B hml hv
  obtain ⟨hav, hsz, hP, hK, hD0⟩ := hv
  subst hsz
  have hD := hD0.self (sz := s.heap.size)
  generalize hAe : va_A (wM cI cJ a_m s_m) s.heap.size = A at hD ⊢
  have hA : ∀ q : Nat, s.heap.size ≤ q → A q := fun q h => by rw [← hAe]; exact Or.inr h
  have hS : va_S A s.heap s.heap [] := va_S.rf
  have hx := B.exec
  have hb := B.bytes
  have hr := B.returns
  have hts := atoms_spec (ws := wsX7_tear) B.pre
  have hown : s.vm.findClass RX7 = some m.cls := findClass_of_methodNamed B.named
  have hlocks := B.notSynchronized
  have hcf : CallFix p m c cX7_tear 2 s args wsX7_tear RX7 := ⟨hx, hb, hml, hown, hts⟩
  have fl_293 := hts (.fieldLink RX7 293 "BucketGiftModel" "isKept" "Z") (List.mem_of_getElem? (i := 1) rfl)
  have hg : entryFrame m args 2 = entryFrame m ([.ref (a_m 0)] : List Value).toArray 2 := by rw [hav]
  rw [hg, lg_entry_eq]
  have hl := lv_entry ([.ref (a_m 0)]) (n := 2) (Nat.le_of_ble_eq_true rfl)
  generalize (lg_sl ([.ref (a_m 0)]) ++ List.replicate (2 - (lg_sl ([.ref (a_m 0)])).length) Slot.unset).toArray = ls at hl ⊢
  have hl : lv_has ls 2 [(0, .ref (a_m 0))] := hl
  clear hg
  unfold fX7_tear at hd
  refine lv_aload_n hx hb dX7_tear_0 rfl (lv_at hl 0 rfl) ?_
  refine rx_get hx hb hts fiX7_tear_X7 hown hK hP 0 rfl rfl 5 (Nat.le_of_ble_eq_true rfl) fl_293 rfl rfl dX7_tear_1 ?_
  refine rx_if_eq hx hb 11 dX7_tear_4 rfl hd (fun hd => ?_) (fun hd => ?_)
  · refine lv_iconst (v := 0) hx hb dX7_tear_11 ki_0 ?_
    refine lv_istore_n (lv' := [(1, .int (0 : Int32)), (0, .ref (a_m 0))]) hx hb dX7_tear_12 rfl hl (Nat.le_of_ble_eq_true rfl) rfl (fun ls hl => ?_)
    refine lv_aload_n hx hb dX7_tear_13 rfl (lv_at hl 1 rfl) ?_
    refine lv_iconst (v := 0) hx hb dX7_tear_14 ki_0 ?_
    refine rx_putz (wM cI cJ a_m (msIsKept s_m (0 : Int32))) hx hb hts fiX7_tear_X7 tyX7 tyX7_ok nmX7 hown hK hP hD hS 0 rfl rfl 5 (Nat.le_of_ble_eq_true rfl) fl_293 rfl rfl rfl (Nat.le_of_ble_eq_true rfl) hd (wM_sIsKept ..) dX7_tear_15 (fun hd H locs hP hD hS => ?_)
    refine lv_iload_n hx hb dX7_tear_18 rfl (lv_at hl 0 rfl) ?_
    exact rx_retUi (u := (msIsKept s_m (0 : Int32))) (w1 := (fun u : MS => (wM cI cJ a_m u))) hx hb hr hlocks hd hK hP hD hS dX7_tear_19
  refine lv_iconst (v := 1) hx hb dX7_tear_7 ki_1 ?_
  refine lv_goto (tgt := 12) hx hb dX7_tear_8 rfl ?_
  refine lv_istore_n (lv' := [(1, .int (1 : Int32)), (0, .ref (a_m 0))]) hx hb dX7_tear_12 rfl hl (Nat.le_of_ble_eq_true rfl) rfl (fun ls hl => ?_)
  refine lv_aload_n hx hb dX7_tear_13 rfl (lv_at hl 1 rfl) ?_
  refine lv_iconst (v := 0) hx hb dX7_tear_14 ki_0 ?_
  refine rx_putz (wM cI cJ a_m (msIsKept s_m (0 : Int32))) hx hb hts fiX7_tear_X7 tyX7 tyX7_ok nmX7 hown hK hP hD hS 0 rfl rfl 5 (Nat.le_of_ble_eq_true rfl) fl_293 rfl rfl rfl (Nat.le_of_ble_eq_true rfl) hd (wM_sIsKept ..) dX7_tear_15 (fun hd H locs hP hD hS => ?_)
  refine lv_iload_n hx hb dX7_tear_18 rfl (lv_at hl 0 rfl) ?_
  exact rx_retUi (u := (msIsKept s_m (0 : Int32))) (w1 := (fun u : MS => (wM cI cJ a_m u))) hx hb hr hlocks hd hK hP hD hS dX7_tear_19
theorem fiX7_count_X7 : ∀ w ∈ wsX70, w ∈ wsX7_count := mem_r _ [25, 26, 27, 28, 29, 30, 31, 32, 33, 34, 35, 36, 37, 38, 39, 40, 41, 42] rfl
set_option maxHeartbeats 8000000 in
set_option maxRecDepth 100000 in
theorem c_X7_count (l : Launch) (dC : Nat → ClassId) (dI : Nat → Nat → Nat) (cI cJ cQ : ClassId) (fu : Nat) (a_m : Nat → Nat) (sz : Nat) (s_m : MS) (x1 : Int32) (r : Int32 × MS) (hd : fX7_count fu  s_m x1 = some r) : mUi l yX7_count wsX7_count (gRm 2 43) [.ref (a_m 0), .int x1] (dC, dI) vwCl (gty cI cJ cQ) (wM cI cJ a_m s_m) sz (fun u : MS => (wM cI cJ a_m u)) r := by
  refine Met.ofW (cc := cX7_count) (maxL := 4) (ret := (some .int)) (by decide) rfl ?_
  intro p e s m args below meth c s₁ B hml hv
  obtain ⟨hav, hsz, hP, hK, hD0⟩ := hv
  subst hsz
  have hD := hD0.self (sz := s.heap.size)
  generalize hAe : va_A (wM cI cJ a_m s_m) s.heap.size = A at hD ⊢
  have hA : ∀ q : Nat, s.heap.size ≤ q → A q := fun q h => by rw [← hAe]; exact Or.inr h
  have hS : va_S A s.heap s.heap [] := va_S.rf
  have hx := B.exec
  have hb := B.bytes
  have hr := B.returns
  have hts := atoms_spec (ws := wsX7_count) B.pre
  have hown : s.vm.findClass RX7 = some m.cls := findClass_of_methodNamed B.named
  have hlocks := B.notSynchronized
  have hcf : CallFix p m c cX7_count 4 s args wsX7_count RX7 := ⟨hx, hb, hml, hown, hts⟩
  have fl_168 := hts (.fieldLink RX7 168 "BucketGiftModel" "taped" "I") (List.mem_of_getElem? (i := 2) rfl)
  have fl_7 := hts (.fieldLink RX7 7 "BucketGiftModel" "s" "[I") (List.mem_of_getElem? (i := 1) rfl)
  have kc_82 := hts (.constantLong RX7 82 (2)) (List.mem_of_getElem? (i := 3) rfl)
  have kc_49 := hts (.constantLong RX7 49 (3)) (List.mem_of_getElem? (i := 4) rfl)
  have kc_48 := hts (.constant RX7 48 (-1000000001)) (List.mem_of_getElem? (i := 5) rfl)
  have hg : entryFrame m args 4 = entryFrame m ([.ref (a_m 0), .int x1] : List Value).toArray 4 := by rw [hav]
  rw [hg, lg_entry_eq]
  have hl := lv_entry ([.ref (a_m 0), .int x1]) (n := 4) (Nat.le_of_ble_eq_true rfl)
  generalize (lg_sl ([.ref (a_m 0), .int x1]) ++ List.replicate (4 - (lg_sl ([.ref (a_m 0), .int x1])).length) Slot.unset).toArray = ls at hl ⊢
  have hl : lv_has ls 4 [(0, .ref (a_m 0)), (1, .int x1)] := hl
  clear hg
  unfold fX7_count at hd
  have b9 : ∀ (s_m : MS) (x1 : Int32), fX7_count_b9 fu    s_m x1 = some r → bk_U p l e (headSpec wsX7_count (gRm 2 43)).room s m args below meth c (qUi below args s (dC, dI) vwCl (gty cI cJ cQ) A (fun u : MS => (wM cI cJ a_m u)) r) (dC, dI) vwCl A 4 (wM cI cJ a_m s_m) 9 [(0, .ref (a_m 0)), (1, .int x1)] [] := by
    intro s_m x1 hd
    intro H locs ls hP hD hS hl
    unfold fX7_count_b9 at hd
    refine lv_iload_n hx hb dX7_count_9 rfl (lv_at hl 1 rfl) ?_
    refine rx_if_ne hx hb 22 dX7_count_10 rfl hd (fun hd => ?_) (fun hd => ?_)
    · refine lv_aload_n hx hb dX7_count_22 rfl (lv_at hl 0 rfl) ?_
      refine rx_get hx hb hts fiX7_count_X7 hown hK hP 0 rfl rfl 9 (Nat.le_of_ble_eq_true rfl) fl_168 rfl rfl dX7_count_23 ?_
      exact rx_retUi (u := s_m) (w1 := (fun u : MS => (wM cI cJ a_m u))) hx hb hr hlocks hd hK hP hD hS dX7_count_26
    refine lv_aload_n hx hb dX7_count_13 rfl (lv_at hl 0 rfl) ?_
    refine rx_get hx hb hts fiX7_count_X7 hown hK hP 0 rfl rfl 0 (Nat.le_of_ble_eq_true rfl) fl_7 rfl rfl dX7_count_14 ?_
    refine lv_iconst (v := 0) hx hb dX7_count_17 ki_0 ?_
    refine rx_iald hx hb hK hP 1 0 rfl rfl hd dX7_count_18 (fun v18 hd => ?_)
    refine lv_goto (tgt := 26) hx hb dX7_count_19 rfl ?_
    exact rx_retUi (u := s_m) (w1 := (fun u : MS => (wM cI cJ a_m u))) hx hb hr hlocks hd hK hP hD hS dX7_count_26
  have b52 : ∀ (x1 : Int32) (s_m : MS) (x2 : Int32) (x3 : Int32), fX7_count_b52 fu    x1 s_m x2 x3 = some r → bk_U p l e (headSpec wsX7_count (gRm 2 43)).room s m args below meth c (qUi below args s (dC, dI) vwCl (gty cI cJ cQ) A (fun u : MS => (wM cI cJ a_m u)) r) (dC, dI) vwCl A 4 (wM cI cJ a_m s_m) 52 [(0, .ref (a_m 0)), (1, .int x1), (2, .int x2), (3, .int x3)] [] := by
    intro x1
    have L : ∀ (n : Nat) (s_m : MS) (x2 : Int32) (x3 : Int32), g_lp (fun _ _ _ => none) (fX7_count_b52B fu    x1) n s_m x2 x3 = some r → bk_U p l e (headSpec wsX7_count (gRm 2 43)).room s m args below meth c (qUi below args s (dC, dI) vwCl (gty cI cJ cQ) A (fun u : MS => (wM cI cJ a_m u)) r) (dC, dI) vwCl A 4 (wM cI cJ a_m s_m) 52 [(0, .ref (a_m 0)), (1, .int x1), (2, .int x2), (3, .int x3)] [] := by
      intro n
      induction n with
      | zero => intro s_m x2 x3 hd; exact absurd hd (by intro h; cases h)
      | succ n k52 =>
        intro s_m x2 x3 hd
        intro H locs ls hP hD hS hl
        have hd : fX7_count_b52B fu    x1 (g_lp (fun _ _ _ => none) (fX7_count_b52B fu    x1) n) s_m x2 x3 = some r := hd
        unfold fX7_count_b52B at hd
        refine lv_iload_n hx hb dX7_count_52 rfl (lv_at hl 3 rfl) ?_
        refine lv_aload_n hx hb dX7_count_53 rfl (lv_at hl 0 rfl) ?_
        refine rx_get hx hb hts fiX7_count_X7 hown hK hP 0 rfl rfl 0 (Nat.le_of_ble_eq_true rfl) fl_7 rfl rfl dX7_count_54 ?_
        refine lv_iconst (v := 0) hx hb dX7_count_57 ki_0 ?_
        refine rx_iald hx hb hK hP 1 0 rfl rfl hd dX7_count_58 (fun v58 hd => ?_)
        refine rx_icmp_ge hx hb 94 dX7_count_59 rfl hd (fun hd => ?_) (fun hd => ?_)
        · refine lv_iload_n hx hb dX7_count_94 rfl (lv_at hl 2 rfl) ?_
          exact rx_retUi (u := s_m) (w1 := (fun u : MS => (wM cI cJ a_m u))) hx hb hr hlocks hd hK hP hD hS dX7_count_95
        refine lv_iload_n hx hb dX7_count_62 rfl (lv_at hl 2 rfl) ?_
        refine lv_iload_n hx hb dX7_count_63 rfl (lv_at hl 1 rfl) ?_
        refine lv_iconst (v := 2) hx hb dX7_count_64 ki_2 ?_
        refine rx_icmp_ne hx hb 80 dX7_count_65 rfl hd (fun hd => ?_) (fun hd => ?_)
        · refine lv_aload_n hx hb dX7_count_80 rfl (lv_at hl 0 rfl) ?_
          refine lv_iload_n hx hb dX7_count_81 rfl (lv_at hl 3 rfl) ?_
          refine lv_iconst (v := 3) hx hb dX7_count_82 ki_3 ?_
          refine rx_roi hd (fun v hv => W.runV (As := [.int x3, .int (3 : Int32)]) (rest := [.int x2]) hcf (c_X7_its l dC dI cI cJ cQ fu a_m  s_m x3 (3 : Int32) v hv) (cwV 2 hts gX7_count_X7_its rfl rfl rfl cd_X7_its ⟨(Nat.le_of_ble_eq_true rfl), (Nat.le_of_ble_eq_true rfl)⟩) (cq_R_V1 (q0 := 0) (ci := 6) hK hP rfl rfl) rfl rfl hl.1 rfl (lv_room (Nat.le_of_ble_eq_true rfl)) dX7_count_83 ⟨Nat.le_refl _, Nat.le_refl _⟩) (fun u83 hd => ?_)
          refine lv_iadd hx hb dX7_count_86 ?_
          refine rx_topi hd (fun x2_87 hd => ?_)
          refine lv_istore_n (lv' := [(2, .int x2_87), (0, .ref (a_m 0)), (1, .int x1), (3, .int x3)]) hx hb dX7_count_87 rfl hl (Nat.le_of_ble_eq_true rfl) rfl (fun ls hl => ?_)
          refine rx_iinc (lv' := fun z => (3, .int z) :: [(2, .int x2_87), (0, .ref (a_m 0)), (1, .int x1)]) hx hb (j := 3) dX7_count_88 hl rfl ki_1 hd (Nat.le_of_ble_eq_true rfl) (fun _ => rfl) (fun x3_88 hd ls hl => ?_)
          refine lv_goto (tgt := 52) hx hb dX7_count_91 rfl ?_
          exact k52 s_m x2_87 x3_88 hd _ _ _ hP hD hS (lv_sub hl [2, 3, 1, 0] rfl)
        refine lv_aload_n hx hb dX7_count_68 rfl (lv_at hl 0 rfl) ?_
        refine lv_iload_n hx hb dX7_count_69 rfl (lv_at hl 3 rfl) ?_
        refine lv_iconst (v := 1) hx hb dX7_count_70 ki_1 ?_
        refine rx_roi hd (fun v hv => W.runV (As := [.int x3, .int (1 : Int32)]) (rest := [.int x2]) hcf (c_X7_its l dC dI cI cJ cQ fu a_m  s_m x3 (1 : Int32) v hv) (cwV 2 hts gX7_count_X7_its rfl rfl rfl cd_X7_its ⟨(Nat.le_of_ble_eq_true rfl), (Nat.le_of_ble_eq_true rfl)⟩) (cq_R_V1 (q0 := 0) (ci := 6) hK hP rfl rfl) rfl rfl hl.1 rfl (lv_room (Nat.le_of_ble_eq_true rfl)) dX7_count_71 ⟨Nat.le_refl _, Nat.le_refl _⟩) (fun u71 hd => ?_)
        refine rx_roi hd (fun v hv => W.runS (As := [.int u71]) (rest := [.int x2]) hcf (c_X7_ones l dC dI cI cJ cQ fu    u71 v hv) (va_cwS 1 hts gX7_count_X7_ones rfl rfl rfl cd_X7_ones ⟨(Nat.le_of_ble_eq_true rfl), (Nat.le_of_ble_eq_true rfl)⟩) (cq_R_S hK hP [] rfl) rfl rfl hl.1 rfl (lv_room (Nat.le_of_ble_eq_true rfl)) dX7_count_74 ⟨Nat.le_refl _, Nat.le_refl _⟩) (fun u74 hd => ?_)
        refine lv_goto (tgt := 86) hx hb dX7_count_77 rfl ?_
        refine lv_iadd hx hb dX7_count_86 ?_
        refine rx_topi hd (fun x2_87 hd => ?_)
        refine lv_istore_n (lv' := [(2, .int x2_87), (0, .ref (a_m 0)), (1, .int x1), (3, .int x3)]) hx hb dX7_count_87 rfl hl (Nat.le_of_ble_eq_true rfl) rfl (fun ls hl => ?_)
        refine rx_iinc (lv' := fun z => (3, .int z) :: [(2, .int x2_87), (0, .ref (a_m 0)), (1, .int x1)]) hx hb (j := 3) dX7_count_88 hl rfl ki_1 hd (Nat.le_of_ble_eq_true rfl) (fun _ => rfl) (fun x3_88 hd ls hl => ?_)
        refine lv_goto (tgt := 52) hx hb dX7_count_91 rfl ?_
        exact k52 s_m x2_87 x3_88 hd _ _ _ hP hD hS (lv_sub hl [2, 3, 1, 0] rfl)
    exact fun s_m x2 x3 => L fu s_m x2 x3
  refine lv_iload_n hx hb dX7_count_0 rfl (lv_at hl 1 rfl) ?_
  refine rx_if_eq hx hb 9 dX7_count_1 rfl hd (fun hd => ?_) (fun hd => ?_)
  · exact b9   s_m x1 hd _ _ _ hP hD hS (lv_sub hl [0, 1] rfl)
  refine lv_iload_n hx hb dX7_count_4 rfl (lv_at hl 1 rfl) ?_
  refine lv_iconst (v := 1) hx hb dX7_count_5 ki_1 ?_
  refine rx_icmp_ne hx hb 27 dX7_count_6 rfl hd (fun hd => ?_) (fun hd => ?_)
  · refine lv_iload_n hx hb dX7_count_27 rfl (lv_at hl 1 rfl) ?_
    refine lv_i2l hx hb dX7_count_28 rfl ?_
    refine lv_ldc2 hx hb hown kc_82 dX7_count_29 ?_
    refine lv_ldc2 hx hb hown kc_49 dX7_count_32 ?_
    refine rx_roi hd (fun v hv => W.runS (As := [.long (Int32.toInt64 x1), .long (2 : Int64), .long (3 : Int64)]) (rest := []) hcf (c_X7_in l dC dI cI cJ cQ fu    (Int32.toInt64 x1) (2 : Int64) (3 : Int64) v hv) (va_cwS 3 hts gX7_count_X7_in rfl rfl rfl cd_X7_in ⟨(Nat.le_of_ble_eq_true rfl), (Nat.le_of_ble_eq_true rfl)⟩) (cq_R_S hK hP [] rfl) rfl rfl hl.1 rfl (lv_room (Nat.le_of_ble_eq_true rfl)) dX7_count_35 ⟨Nat.le_refl _, Nat.le_refl _⟩) (fun u35 hd => ?_)
    refine rx_if_ne hx hb 48 dX7_count_38 rfl hd (fun hd => ?_) (fun hd => ?_)
    · refine lv_iconst (v := 0) hx hb dX7_count_48 ki_0 ?_
      refine lv_istore_n (lv' := [(2, .int (0 : Int32)), (0, .ref (a_m 0)), (1, .int x1)]) hx hb dX7_count_49 rfl hl (Nat.le_of_ble_eq_true rfl) rfl (fun ls hl => ?_)
      refine lv_iconst (v := 0) hx hb dX7_count_50 ki_0 ?_
      refine lv_istore_n (lv' := [(3, .int (0 : Int32)), (2, .int (0 : Int32)), (0, .ref (a_m 0)), (1, .int x1)]) hx hb dX7_count_51 rfl hl (Nat.le_of_ble_eq_true rfl) rfl (fun ls hl => ?_)
      exact b52   x1 s_m (0 : Int32) (0 : Int32) hd _ _ _ hP hD hS (lv_sub hl [2, 3, 1, 0] rfl)
    refine lv_aload_n hx hb dX7_count_41 rfl (lv_at hl 0 rfl) ?_
    refine lv_ldc hx hb hown kc_48 dX7_count_42 ?_
    refine rx_upi1 hd hD hS hA (fun v hv => va_runV (As := [.int (-1000000001 : Int32)]) (rest := []) hcf (c_X7_finds l dC dI cI cJ cQ fu a_m _  s_m (-1000000001 : Int32) v hv) (cwV 1 hts gX7_count_X7_finds rfl rfl rfl cd_X7_finds ⟨(Nat.le_of_ble_eq_true rfl), (Nat.le_of_ble_eq_true rfl)⟩) (cq_U_V1 (q0 := 0) (ci := 6) hK hP hD rfl rfl) rfl rfl hl.1 rfl (lv_room (Nat.le_of_ble_eq_true rfl)) dX7_count_44 ⟨Nat.le_refl _, Nat.le_refl _⟩) (fun u44 hd H locs hP hD hS => ?_)
    exact rx_retUi (u := u44.2) (w1 := (fun u : MS => (wM cI cJ a_m u))) hx hb hr hlocks hd hK hP hD hS dX7_count_47
  exact b9   s_m x1 hd _ _ _ hP hD hS (lv_sub hl [0, 1] rfl)
theorem fiX7_status_X7 : ∀ w ∈ wsX70, w ∈ wsX7_status := mem_r _ [13, 14, 15, 16, 17, 18, 19, 20, 21, 22, 23, 24, 25, 26, 27, 28, 29, 30] rfl
set_option maxHeartbeats 8000000 in
set_option maxRecDepth 100000 in
theorem c_X7_status (l : Launch) (dC : Nat → ClassId) (dI : Nat → Nat → Nat) (cI cJ cQ : ClassId) (fu : Nat) (a_m : Nat → Nat) (sz : Nat) (s_m : MS) (x1 : Int32) (r : Int32 × MS) (hd : fX7_status fu  s_m x1 = some r) : mUi l yX7_status wsX7_status (gRm 1 25) [.ref (a_m 0), .int x1] (dC, dI) vwCl (gty cI cJ cQ) (wM cI cJ a_m s_m) sz (fun u : MS => (wM cI cJ a_m u)) r := by
  refine Met.ofW (cc := cX7_status) (maxL := 4) (ret := (some .int)) (by decide) rfl ?_
  intro p e s m args below meth c s₁ B hml hv
  obtain ⟨hav, hsz, hP, hK, hD0⟩ := hv
  subst hsz
  have hD := hD0.self (sz := s.heap.size)
  generalize hAe : va_A (wM cI cJ a_m s_m) s.heap.size = A at hD ⊢
  have hA : ∀ q : Nat, s.heap.size ≤ q → A q := fun q h => by rw [← hAe]; exact Or.inr h
  have hS : va_S A s.heap s.heap [] := va_S.rf
  have hx := B.exec
  have hb := B.bytes
  have hr := B.returns
  have hts := atoms_spec (ws := wsX7_status) B.pre
  have hown : s.vm.findClass RX7 = some m.cls := findClass_of_methodNamed B.named
  have hlocks := B.notSynchronized
  have hcf : CallFix p m c cX7_status 4 s args wsX7_status RX7 := ⟨hx, hb, hml, hown, hts⟩
  have fl_22 := hts (.fieldLink RX7 22 "BucketGiftModel" "statuses" "[I") (List.mem_of_getElem? (i := 4) rfl)
  have kc_296 := hts (.constantLong RX7 296 (-1)) (List.mem_of_getElem? (i := 1) rfl)
  have kc_298 := hts (.constantLong RX7 298 (6)) (List.mem_of_getElem? (i := 2) rfl)
  have kc_48 := hts (.constant RX7 48 (-1000000001)) (List.mem_of_getElem? (i := 3) rfl)
  have hg : entryFrame m args 4 = entryFrame m ([.ref (a_m 0), .int x1] : List Value).toArray 4 := by rw [hav]
  rw [hg, lg_entry_eq]
  have hl := lv_entry ([.ref (a_m 0), .int x1]) (n := 4) (Nat.le_of_ble_eq_true rfl)
  generalize (lg_sl ([.ref (a_m 0), .int x1]) ++ List.replicate (4 - (lg_sl ([.ref (a_m 0), .int x1])).length) Slot.unset).toArray = ls at hl ⊢
  have hl : lv_has ls 4 [(0, .ref (a_m 0)), (1, .int x1)] := hl
  clear hg
  unfold fX7_status at hd
  have b25 : ∀ (x1 : Int32) (s_m : MS) (x2 : Int32) (x3 : Int32), fX7_status_b25 fu    x1 s_m x2 x3 = some r → bk_U p l e (headSpec wsX7_status (gRm 1 25)).room s m args below meth c (qUi below args s (dC, dI) vwCl (gty cI cJ cQ) A (fun u : MS => (wM cI cJ a_m u)) r) (dC, dI) vwCl A 4 (wM cI cJ a_m s_m) 25 [(0, .ref (a_m 0)), (1, .int x1), (2, .int x2), (3, .int x3)] [] := by
    intro x1
    have L : ∀ (n : Nat) (s_m : MS) (x2 : Int32) (x3 : Int32), g_lp (fun _ _ _ => none) (fX7_status_b25B fu    x1) n s_m x2 x3 = some r → bk_U p l e (headSpec wsX7_status (gRm 1 25)).room s m args below meth c (qUi below args s (dC, dI) vwCl (gty cI cJ cQ) A (fun u : MS => (wM cI cJ a_m u)) r) (dC, dI) vwCl A 4 (wM cI cJ a_m s_m) 25 [(0, .ref (a_m 0)), (1, .int x1), (2, .int x2), (3, .int x3)] [] := by
      intro n
      induction n with
      | zero => intro s_m x2 x3 hd; exact absurd hd (by intro h; cases h)
      | succ n k25 =>
        intro s_m x2 x3 hd
        intro H locs ls hP hD hS hl
        have hd : fX7_status_b25B fu    x1 (g_lp (fun _ _ _ => none) (fX7_status_b25B fu    x1) n) s_m x2 x3 = some r := hd
        unfold fX7_status_b25B at hd
        refine lv_iload_n hx hb dX7_status_25 rfl (lv_at hl 3 rfl) ?_
        refine lv_bipush (v := 7) hx hb dX7_status_26 kb_7 ?_
        refine rx_icmp_ge hx hb 59 dX7_status_28 rfl hd (fun hd => ?_) (fun hd => ?_)
        · refine lv_iload_n hx hb dX7_status_59 rfl (lv_at hl 2 rfl) ?_
          exact rx_retUi (u := s_m) (w1 := (fun u : MS => (wM cI cJ a_m u))) hx hb hr hlocks hd hK hP hD hS dX7_status_60
        refine lv_iload_n hx hb dX7_status_31 rfl (lv_at hl 2 rfl) ?_
        refine lv_iload_n hx hb dX7_status_32 rfl (lv_at hl 1 rfl) ?_
        refine rx_if_lt hx hb 41 dX7_status_33 rfl hd (fun hd => ?_) (fun hd => ?_)
        · refine lv_aload_n hx hb dX7_status_41 rfl (lv_at hl 0 rfl) ?_
          refine rx_get hx hb hts fiX7_status_X7 hown hK hP 0 rfl rfl 4 (Nat.le_of_ble_eq_true rfl) fl_22 rfl rfl dX7_status_42 ?_
          refine lv_iload_n hx hb dX7_status_45 rfl (lv_at hl 3 rfl) ?_
          refine rx_iald hx hb hK hP 5 0 rfl rfl hd dX7_status_46 (fun v46 hd => ?_)
          refine lv_goto (tgt := 51) hx hb dX7_status_47 rfl ?_
          refine lv_iadd hx hb dX7_status_51 ?_
          refine rx_topi hd (fun x2_52 hd => ?_)
          refine lv_istore_n (lv' := [(2, .int x2_52), (0, .ref (a_m 0)), (1, .int x1), (3, .int x3)]) hx hb dX7_status_52 rfl hl (Nat.le_of_ble_eq_true rfl) rfl (fun ls hl => ?_)
          refine rx_iinc (lv' := fun z => (3, .int z) :: [(2, .int x2_52), (0, .ref (a_m 0)), (1, .int x1)]) hx hb (j := 3) dX7_status_53 hl rfl ki_1 hd (Nat.le_of_ble_eq_true rfl) (fun _ => rfl) (fun x3_53 hd ls hl => ?_)
          refine lv_goto (tgt := 25) hx hb dX7_status_56 rfl ?_
          exact k25 s_m x2_52 x3_53 hd _ _ _ hP hD hS (lv_sub hl [2, 3, 1, 0] rfl)
        refine lv_iload_n hx hb dX7_status_36 rfl (lv_at hl 3 rfl) ?_
        refine lv_iload_n hx hb dX7_status_37 rfl (lv_at hl 1 rfl) ?_
        refine rx_icmp_ne hx hb 50 dX7_status_38 rfl hd (fun hd => ?_) (fun hd => ?_)
        · refine lv_iconst (v := 0) hx hb dX7_status_50 ki_0 ?_
          refine lv_iadd hx hb dX7_status_51 ?_
          refine rx_topi hd (fun x2_52 hd => ?_)
          refine lv_istore_n (lv' := [(2, .int x2_52), (0, .ref (a_m 0)), (1, .int x1), (3, .int x3)]) hx hb dX7_status_52 rfl hl (Nat.le_of_ble_eq_true rfl) rfl (fun ls hl => ?_)
          refine rx_iinc (lv' := fun z => (3, .int z) :: [(2, .int x2_52), (0, .ref (a_m 0)), (1, .int x1)]) hx hb (j := 3) dX7_status_53 hl rfl ki_1 hd (Nat.le_of_ble_eq_true rfl) (fun _ => rfl) (fun x3_53 hd ls hl => ?_)
          refine lv_goto (tgt := 25) hx hb dX7_status_56 rfl ?_
          exact k25 s_m x2_52 x3_53 hd _ _ _ hP hD hS (lv_sub hl [2, 3, 1, 0] rfl)
        refine lv_aload_n hx hb dX7_status_41 rfl (lv_at hl 0 rfl) ?_
        refine rx_get hx hb hts fiX7_status_X7 hown hK hP 0 rfl rfl 4 (Nat.le_of_ble_eq_true rfl) fl_22 rfl rfl dX7_status_42 ?_
        refine lv_iload_n hx hb dX7_status_45 rfl (lv_at hl 3 rfl) ?_
        refine rx_iald hx hb hK hP 5 0 rfl rfl hd dX7_status_46 (fun v46 hd => ?_)
        refine lv_goto (tgt := 51) hx hb dX7_status_47 rfl ?_
        refine lv_iadd hx hb dX7_status_51 ?_
        refine rx_topi hd (fun x2_52 hd => ?_)
        refine lv_istore_n (lv' := [(2, .int x2_52), (0, .ref (a_m 0)), (1, .int x1), (3, .int x3)]) hx hb dX7_status_52 rfl hl (Nat.le_of_ble_eq_true rfl) rfl (fun ls hl => ?_)
        refine rx_iinc (lv' := fun z => (3, .int z) :: [(2, .int x2_52), (0, .ref (a_m 0)), (1, .int x1)]) hx hb (j := 3) dX7_status_53 hl rfl ki_1 hd (Nat.le_of_ble_eq_true rfl) (fun _ => rfl) (fun x3_53 hd ls hl => ?_)
        refine lv_goto (tgt := 25) hx hb dX7_status_56 rfl ?_
        exact k25 s_m x2_52 x3_53 hd _ _ _ hP hD hS (lv_sub hl [2, 3, 1, 0] rfl)
    exact fun s_m x2 x3 => L fu s_m x2 x3
  refine lv_iload_n hx hb dX7_status_0 rfl (lv_at hl 1 rfl) ?_
  refine lv_i2l hx hb dX7_status_1 rfl ?_
  refine lv_ldc2 hx hb hown kc_296 dX7_status_2 ?_
  refine lv_ldc2 hx hb hown kc_298 dX7_status_5 ?_
  refine rx_roi hd (fun v hv => W.runS (As := [.long (Int32.toInt64 x1), .long (-1 : Int64), .long (6 : Int64)]) (rest := []) hcf (c_X7_in l dC dI cI cJ cQ fu    (Int32.toInt64 x1) (-1 : Int64) (6 : Int64) v hv) (va_cwS 3 hts gX7_status_X7_in rfl rfl rfl cd_X7_in ⟨(Nat.le_of_ble_eq_true rfl), (Nat.le_of_ble_eq_true rfl)⟩) (cq_R_S hK hP [] rfl) rfl rfl hl.1 rfl (lv_room (Nat.le_of_ble_eq_true rfl)) dX7_status_8 ⟨Nat.le_refl _, Nat.le_refl _⟩) (fun u8 hd => ?_)
  refine rx_if_ne hx hb 21 dX7_status_11 rfl hd (fun hd => ?_) (fun hd => ?_)
  · refine lv_iconst (v := 0) hx hb dX7_status_21 ki_0 ?_
    refine lv_istore_n (lv' := [(2, .int (0 : Int32)), (0, .ref (a_m 0)), (1, .int x1)]) hx hb dX7_status_22 rfl hl (Nat.le_of_ble_eq_true rfl) rfl (fun ls hl => ?_)
    refine lv_iconst (v := 0) hx hb dX7_status_23 ki_0 ?_
    refine lv_istore_n (lv' := [(3, .int (0 : Int32)), (2, .int (0 : Int32)), (0, .ref (a_m 0)), (1, .int x1)]) hx hb dX7_status_24 rfl hl (Nat.le_of_ble_eq_true rfl) rfl (fun ls hl => ?_)
    exact b25   x1 s_m (0 : Int32) (0 : Int32) hd _ _ _ hP hD hS (lv_sub hl [2, 3, 1, 0] rfl)
  refine lv_aload_n hx hb dX7_status_14 rfl (lv_at hl 0 rfl) ?_
  refine lv_ldc hx hb hown kc_48 dX7_status_15 ?_
  refine rx_upi1 hd hD hS hA (fun v hv => va_runV (As := [.int (-1000000001 : Int32)]) (rest := []) hcf (c_X7_finds l dC dI cI cJ cQ fu a_m _  s_m (-1000000001 : Int32) v hv) (cwV 1 hts gX7_status_X7_finds rfl rfl rfl cd_X7_finds ⟨(Nat.le_of_ble_eq_true rfl), (Nat.le_of_ble_eq_true rfl)⟩) (cq_U_V1 (q0 := 0) (ci := 6) hK hP hD rfl rfl) rfl rfl hl.1 rfl (lv_room (Nat.le_of_ble_eq_true rfl)) dX7_status_17 ⟨Nat.le_refl _, Nat.le_refl _⟩) (fun u17 hd H locs hP hD hS => ?_)
  exact rx_retUi (u := u17.2) (w1 := (fun u : MS => (wM cI cJ a_m u))) hx hb hr hlocks hd hK hP hD hS dX7_status_20
