set_option maxHeartbeats 8000000 in
set_option maxRecDepth 100000 in
theorem c_X7_isDigit (l : Launch) (dC : Nat → ClassId) (dI : Nat → Nat → Nat) (cI cJ cQ : ClassId) (fu : Nat)   (x0 : Int32) (r : Int32) (hd : fX7_isDigit fu   x0 = some r) : mRi l yX7_isDigit wsX7_isDigit (gRm 1 25) [.int x0] (cq_R (dC, dI) vwCl (gty cI cJ cQ) ([] : va_W)) r := by
  refine Met.ofW (cc := cX7_isDigit) (maxL := 1) (ret := (some .boolean)) (by decide) rfl ?_
  intro p e s m args below meth c s₁ B hml hv
  obtain ⟨hav, hP, hK⟩ := hv
  have hx := B.exec
  have hb := B.bytes
  have hr := B.returns
  have hts := atoms_spec (ws := wsX7_isDigit) B.pre
  have hown : s.vm.findClass RX7 = some m.cls := findClass_of_methodNamed B.named
  have hlocks := B.notSynchronized
  have hcf : CallFix p m c cX7_isDigit 1 s args wsX7_isDigit RX7 := ⟨hx, hb, hml, hown, hts⟩
  have kc_175 := hts (.constantLong RX7 175 (48)) (List.mem_of_getElem? (i := 1) rfl)
  have kc_177 := hts (.constantLong RX7 177 (57)) (List.mem_of_getElem? (i := 2) rfl)
  have hg : entryFrame m args 1 = entryFrame m ([.int x0] : List Value).toArray 1 := by rw [hav]
  rw [hg, lg_entry_eq]
  have hl := lv_entry ([.int x0]) (n := 1) (Nat.le_of_ble_eq_true rfl)
  generalize (lg_sl ([.int x0]) ++ List.replicate (1 - (lg_sl ([.int x0])).length) Slot.unset).toArray = ls at hl ⊢
  have hl : lv_has ls 1 [(0, .int x0)] := hl
  clear hg
  unfold fX7_isDigit at hd
  refine lv_iload_n hx hb dX7_isDigit_0 rfl (lv_at hl 0 rfl) ?_
  refine lv_i2l hx hb dX7_isDigit_1 rfl ?_
  refine lv_ldc2 hx hb hown kc_175 dX7_isDigit_2 ?_
  refine lv_ldc2 hx hb hown kc_177 dX7_isDigit_5 ?_
  refine rx_roi hd (fun v hv => W.runS (As := [.long (Int32.toInt64 x0), .long (48 : Int64), .long (57 : Int64)]) (rest := []) hcf (c_X7_in l dC dI cI cJ cQ fu    (Int32.toInt64 x0) (48 : Int64) (57 : Int64) v hv) (va_cwS 3 hts gX7_isDigit_X7_in rfl rfl rfl cd_X7_in ⟨(Nat.le_of_ble_eq_true rfl), (Nat.le_of_ble_eq_true rfl)⟩) (cq_R_S hK hP [] rfl) rfl rfl hl.1 rfl (lv_room (Nat.le_of_ble_eq_true rfl)) dX7_isDigit_8 ⟨Nat.le_refl _, Nat.le_refl _⟩) (fun u8 hd => ?_)
  exact rx_retRz hx hb hr hlocks hd dX7_isDigit_11
theorem fiX7_token_X7 : ∀ w ∈ wsX70, w ∈ wsX7_token := mem_r _ [23, 24, 25, 26, 27, 28, 29, 30, 31, 32, 33, 34, 35, 36, 37, 38, 39, 40] rfl
set_option maxHeartbeats 8000000 in
set_option maxRecDepth 100000 in
theorem c_X7_token (l : Launch) (dC : Nat → ClassId) (dI : Nat → Nat → Nat) (cI cJ cQ : ClassId) (fu : Nat) (a_m : Nat → Nat) (sz : Nat) (s_m : MS)  (r : MS) (hd : fX7_token fu  s_m  = some r) : mUv l yX7_token wsX7_token (gRm 2 45) [.ref (a_m 0)] (dC, dI) vwCl (gty cI cJ cQ) (wM cI cJ a_m s_m) sz (fun u : MS => (wM cI cJ a_m u)) r := by
  refine Met.ofW (cc := cX7_token) (maxL := 3) (ret := none) (by decide) rfl ?_
  intro p e s m args below meth c s₁ B hml hv
  obtain ⟨hav, hsz, hP, hK, hD0⟩ := hv
  subst hsz
  have hD := hD0.self (sz := s.heap.size)
  generalize hAe : va_A (wM cI cJ a_m s_m) s.heap.size = A at hD ⊢
  have hA : ∀ q : Nat, s.heap.size ≤ q → A q := fun q h => by rw [← hAe]; exact Or.inr h
  have hS : va_S A s.heap s.heap [] := va_S.rf
  have hx := B.exec
  have hb := B.bytes
  have hr := B.returns
  have hts := atoms_spec (ws := wsX7_token) B.pre
  have hown : s.vm.findClass RX7 = some m.cls := findClass_of_methodNamed B.named
  have hlocks := B.notSynchronized
  have hcf : CallFix p m c cX7_token 3 s args wsX7_token RX7 := ⟨hx, hb, hml, hown, hts⟩
  have fl_179 := hts (.fieldLink RX7 179 "BucketGiftModel" "to" "I") (List.mem_of_getElem? (i := 1) rfl)
  have fl_182 := hts (.fieldLink RX7 182 "BucketGiftModel" "from" "I") (List.mem_of_getElem? (i := 2) rfl)
  have fl_168 := hts (.fieldLink RX7 168 "BucketGiftModel" "taped" "I") (List.mem_of_getElem? (i := 3) rfl)
  have hg : entryFrame m args 3 = entryFrame m ([.ref (a_m 0)] : List Value).toArray 3 := by rw [hav]
  rw [hg, lg_entry_eq]
  have hl := lv_entry ([.ref (a_m 0)]) (n := 3) (Nat.le_of_ble_eq_true rfl)
  generalize (lg_sl ([.ref (a_m 0)]) ++ List.replicate (3 - (lg_sl ([.ref (a_m 0)])).length) Slot.unset).toArray = ls at hl ⊢
  have hl : lv_has ls 3 [(0, .ref (a_m 0))] := hl
  clear hg
  unfold fX7_token at hd
  have b104 : ∀ (x1 : Int32) (x2 : Int32), ∀ (K86 : MS → Option (MS)) (k86 : ∀ (s_m : MS), K86 s_m = some r → bk_U p l e (headSpec wsX7_token (gRm 2 45)).room s m args below meth c (qUv below args s (dC, dI) vwCl (gty cI cJ cQ) A (fun u : MS => (wM cI cJ a_m u)) r) (dC, dI) vwCl A 3 (wM cI cJ a_m s_m) 86 [(0, .ref (a_m 0)), (1, .int x1), (2, .int x2)] []), ∀ (s_m : MS), fX7_token_b104 fu  K86 x1 x2 s_m = some r → bk_U p l e (headSpec wsX7_token (gRm 2 45)).room s m args below meth c (qUv below args s (dC, dI) vwCl (gty cI cJ cQ) A (fun u : MS => (wM cI cJ a_m u)) r) (dC, dI) vwCl A 3 (wM cI cJ a_m s_m) 104 [(0, .ref (a_m 0)), (1, .int x1), (2, .int x2)] [] := by
    intro x1 x2
    intro K86 k86
    intro s_m hd
    intro H locs ls hP hD hS hl
    unfold fX7_token_b104 at hd
    refine lv_iload_n hx hb dX7_token_104 rfl (lv_at hl 2 rfl) ?_
    refine rx_if_eq hx hb 135 dX7_token_105 rfl hd (fun hd => ?_) (fun hd => ?_)
    · exact rx_retUv (u := s_m) (w1 := (fun u : MS => (wM cI cJ a_m u))) hx hb hr hlocks hd hK hP hD hS dX7_token_135
    refine lv_aload_n hx hb dX7_token_108 rfl (lv_at hl 0 rfl) ?_
    refine lv_aload_n hx hb dX7_token_109 rfl (lv_at hl 0 rfl) ?_
    refine rx_get hx hb hts fiX7_token_X7 hown hK hP 0 rfl rfl 11 (Nat.le_of_ble_eq_true rfl) fl_179 rfl rfl dX7_token_110 ?_
    refine rx_roi hd (fun v hv => W.runV (As := [.int (mgTo s_m)]) (rest := []) hcf (c_X7_byteAt l dC dI cI cJ cQ fu a_m  s_m (mgTo s_m) v hv) (cwV 1 hts gX7_token_X7_byteAt rfl rfl rfl cd_X7_byteAt ⟨(Nat.le_of_ble_eq_true rfl), (Nat.le_of_ble_eq_true rfl)⟩) (cq_R_V1 (q0 := 0) (ci := 6) hK hP rfl rfl) rfl rfl hl.1 rfl (lv_room (Nat.le_of_ble_eq_true rfl)) dX7_token_113 ⟨Nat.le_refl _, Nat.le_refl _⟩) (fun u113 hd => ?_)
    refine rx_roi hd (fun v hv => W.runS (As := [.int u113]) (rest := []) hcf (c_X7_isDigit l dC dI cI cJ cQ fu    u113 v hv) (va_cwS 1 hts gX7_token_X7_isDigit rfl rfl rfl cd_X7_isDigit ⟨(Nat.le_of_ble_eq_true rfl), (Nat.le_of_ble_eq_true rfl)⟩) (cq_R_S hK hP [] rfl) rfl rfl hl.1 rfl (lv_room (Nat.le_of_ble_eq_true rfl)) dX7_token_116 ⟨Nat.le_refl _, Nat.le_refl _⟩) (fun u116 hd => ?_)
    refine rx_if_eq hx hb 135 dX7_token_119 rfl hd (fun hd => ?_) (fun hd => ?_)
    · exact rx_retUv (u := s_m) (w1 := (fun u : MS => (wM cI cJ a_m u))) hx hb hr hlocks hd hK hP hD hS dX7_token_135
    refine lv_aload_n hx hb dX7_token_122 rfl (lv_at hl 0 rfl) ?_
    refine lv_dup hx hb dX7_token_123 rfl ?_
    refine rx_get hx hb hts fiX7_token_X7 hown hK hP 0 rfl rfl 11 (Nat.le_of_ble_eq_true rfl) fl_179 rfl rfl dX7_token_124 ?_
    refine lv_iconst (v := 1) hx hb dX7_token_127 ki_1 ?_
    refine lv_iadd hx hb dX7_token_128 ?_
    refine rx_puti (wM cI cJ a_m (msTo s_m ((mgTo s_m) + (1 : Int32)))) hx hb hts fiX7_token_X7 tyX7 tyX7_ok nmX7 hown hK hP hD hS 0 rfl rfl 11 (Nat.le_of_ble_eq_true rfl) fl_179 rfl rfl rfl (Nat.le_of_ble_eq_true rfl) (wM_sTo ..) dX7_token_129 (fun H locs hP hD hS => ?_)
    refine lv_goto (tgt := 86) hx hb dX7_token_132 rfl ?_
    exact k86 (msTo s_m ((mgTo s_m) + (1 : Int32))) hd _ _ _ hP hD hS (lv_sub hl [0, 1, 2] rfl)
  have b86 : ∀ (x1 : Int32) (x2 : Int32) (s_m : MS), fX7_token_b86 fu    x1 x2 s_m = some r → bk_U p l e (headSpec wsX7_token (gRm 2 45)).room s m args below meth c (qUv below args s (dC, dI) vwCl (gty cI cJ cQ) A (fun u : MS => (wM cI cJ a_m u)) r) (dC, dI) vwCl A 3 (wM cI cJ a_m s_m) 86 [(0, .ref (a_m 0)), (1, .int x1), (2, .int x2)] [] := by
    intro x1 x2
    have L : ∀ (n : Nat) (s_m : MS), g_lp (fun _ => none) (fX7_token_b86B fu    x1 x2) n s_m = some r → bk_U p l e (headSpec wsX7_token (gRm 2 45)).room s m args below meth c (qUv below args s (dC, dI) vwCl (gty cI cJ cQ) A (fun u : MS => (wM cI cJ a_m u)) r) (dC, dI) vwCl A 3 (wM cI cJ a_m s_m) 86 [(0, .ref (a_m 0)), (1, .int x1), (2, .int x2)] [] := by
      intro n
      induction n with
      | zero => intro s_m hd; exact absurd hd (by intro h; cases h)
      | succ n k86 =>
        intro s_m hd
        intro H locs ls hP hD hS hl
        have hd : fX7_token_b86B fu    x1 x2 (g_lp (fun _ => none) (fX7_token_b86B fu    x1 x2) n) s_m = some r := hd
        unfold fX7_token_b86B at hd
        refine lv_iload_n hx hb dX7_token_86 rfl (lv_at hl 1 rfl) ?_
        refine rx_if_eq hx hb 104 dX7_token_87 rfl hd (fun hd => ?_) (fun hd => ?_)
        · exact b104 x1 x2 _ k86 s_m hd _ _ _ hP hD hS (lv_sub hl [0, 1, 2] rfl)
        refine lv_aload_n hx hb dX7_token_90 rfl (lv_at hl 0 rfl) ?_
        refine lv_aload_n hx hb dX7_token_91 rfl (lv_at hl 0 rfl) ?_
        refine rx_get hx hb hts fiX7_token_X7 hown hK hP 0 rfl rfl 11 (Nat.le_of_ble_eq_true rfl) fl_179 rfl rfl dX7_token_92 ?_
        refine rx_roi hd (fun v hv => W.runV (As := [.int (mgTo s_m)]) (rest := []) hcf (c_X7_byteAt l dC dI cI cJ cQ fu a_m  s_m (mgTo s_m) v hv) (cwV 1 hts gX7_token_X7_byteAt rfl rfl rfl cd_X7_byteAt ⟨(Nat.le_of_ble_eq_true rfl), (Nat.le_of_ble_eq_true rfl)⟩) (cq_R_V1 (q0 := 0) (ci := 6) hK hP rfl rfl) rfl rfl hl.1 rfl (lv_room (Nat.le_of_ble_eq_true rfl)) dX7_token_95 ⟨Nat.le_refl _, Nat.le_refl _⟩) (fun u95 hd => ?_)
        refine rx_roi hd (fun v hv => W.runS (As := [.int u95]) (rest := []) hcf (c_X7_isLetter l dC dI cI cJ cQ fu    u95 v hv) (va_cwS 1 hts gX7_token_X7_isLetter rfl rfl rfl cd_X7_isLetter ⟨(Nat.le_of_ble_eq_true rfl), (Nat.le_of_ble_eq_true rfl)⟩) (cq_R_S hK hP [] rfl) rfl rfl hl.1 rfl (lv_room (Nat.le_of_ble_eq_true rfl)) dX7_token_98 ⟨Nat.le_refl _, Nat.le_refl _⟩) (fun u98 hd => ?_)
        refine rx_if_ne hx hb 122 dX7_token_101 rfl hd (fun hd => ?_) (fun hd => ?_)
        · refine lv_aload_n hx hb dX7_token_122 rfl (lv_at hl 0 rfl) ?_
          refine lv_dup hx hb dX7_token_123 rfl ?_
          refine rx_get hx hb hts fiX7_token_X7 hown hK hP 0 rfl rfl 11 (Nat.le_of_ble_eq_true rfl) fl_179 rfl rfl dX7_token_124 ?_
          refine lv_iconst (v := 1) hx hb dX7_token_127 ki_1 ?_
          refine lv_iadd hx hb dX7_token_128 ?_
          refine rx_puti (wM cI cJ a_m (msTo s_m ((mgTo s_m) + (1 : Int32)))) hx hb hts fiX7_token_X7 tyX7 tyX7_ok nmX7 hown hK hP hD hS 0 rfl rfl 11 (Nat.le_of_ble_eq_true rfl) fl_179 rfl rfl rfl (Nat.le_of_ble_eq_true rfl) (wM_sTo ..) dX7_token_129 (fun H locs hP hD hS => ?_)
          refine lv_goto (tgt := 86) hx hb dX7_token_132 rfl ?_
          exact k86 (msTo s_m ((mgTo s_m) + (1 : Int32))) hd _ _ _ hP hD hS (lv_sub hl [0, 1, 2] rfl)
        exact b104 x1 x2 _ k86 s_m hd _ _ _ hP hD hS (lv_sub hl [0, 1, 2] rfl)
    exact fun s_m => L fu s_m
  have b8 : ∀ (s_m : MS), fX7_token_b8 fu     s_m = some r → bk_U p l e (headSpec wsX7_token (gRm 2 45)).room s m args below meth c (qUv below args s (dC, dI) vwCl (gty cI cJ cQ) A (fun u : MS => (wM cI cJ a_m u)) r) (dC, dI) vwCl A 3 (wM cI cJ a_m s_m) 8 [(0, .ref (a_m 0))] [] := by
    have L : ∀ (n : Nat) (s_m : MS), g_lp (fun _ => none) (fX7_token_b8B fu    ) n s_m = some r → bk_U p l e (headSpec wsX7_token (gRm 2 45)).room s m args below meth c (qUv below args s (dC, dI) vwCl (gty cI cJ cQ) A (fun u : MS => (wM cI cJ a_m u)) r) (dC, dI) vwCl A 3 (wM cI cJ a_m s_m) 8 [(0, .ref (a_m 0))] [] := by
      intro n
      induction n with
      | zero => intro s_m hd; exact absurd hd (by intro h; cases h)
      | succ n k8 =>
        intro s_m hd
        intro H locs ls hP hD hS hl
        have hd : fX7_token_b8B fu     (g_lp (fun _ => none) (fX7_token_b8B fu    ) n) s_m = some r := hd
        unfold fX7_token_b8B at hd
        refine lv_aload_n hx hb dX7_token_8 rfl (lv_at hl 0 rfl) ?_
        refine lv_aload_n hx hb dX7_token_9 rfl (lv_at hl 0 rfl) ?_
        refine rx_get hx hb hts fiX7_token_X7 hown hK hP 0 rfl rfl 10 (Nat.le_of_ble_eq_true rfl) fl_182 rfl rfl dX7_token_10 ?_
        refine rx_roi hd (fun v hv => W.runV (As := [.int (mgFrom s_m)]) (rest := []) hcf (c_X7_byteAt l dC dI cI cJ cQ fu a_m  s_m (mgFrom s_m) v hv) (cwV 1 hts gX7_token_X7_byteAt rfl rfl rfl cd_X7_byteAt ⟨(Nat.le_of_ble_eq_true rfl), (Nat.le_of_ble_eq_true rfl)⟩) (cq_R_V1 (q0 := 0) (ci := 6) hK hP rfl rfl) rfl rfl hl.1 rfl (lv_room (Nat.le_of_ble_eq_true rfl)) dX7_token_13 ⟨Nat.le_refl _, Nat.le_refl _⟩) (fun u13 hd => ?_)
        refine lv_bipush (v := 32) hx hb dX7_token_16 kb_32 ?_
        refine rx_icmp_ne hx hb 34 dX7_token_18 rfl hd (fun hd => ?_) (fun hd => ?_)
        · refine lv_aload_n hx hb dX7_token_34 rfl (lv_at hl 0 rfl) ?_
          refine lv_aload_n hx hb dX7_token_35 rfl (lv_at hl 0 rfl) ?_
          refine rx_get hx hb hts fiX7_token_X7 hown hK hP 0 rfl rfl 10 (Nat.le_of_ble_eq_true rfl) fl_182 rfl rfl dX7_token_36 ?_
          refine rx_roi hd (fun v hv => W.runV (As := [.int (mgFrom s_m)]) (rest := []) hcf (c_X7_byteAt l dC dI cI cJ cQ fu a_m  s_m (mgFrom s_m) v hv) (cwV 1 hts gX7_token_X7_byteAt rfl rfl rfl cd_X7_byteAt ⟨(Nat.le_of_ble_eq_true rfl), (Nat.le_of_ble_eq_true rfl)⟩) (cq_R_V1 (q0 := 0) (ci := 6) hK hP rfl rfl) rfl rfl hl.1 rfl (lv_room (Nat.le_of_ble_eq_true rfl)) dX7_token_39 ⟨Nat.le_refl _, Nat.le_refl _⟩) (fun u39 hd => ?_)
          refine rx_roi hd (fun v hv => W.runS (As := [.int u39]) (rest := []) hcf (c_X7_isLetter l dC dI cI cJ cQ fu    u39 v hv) (va_cwS 1 hts gX7_token_X7_isLetter rfl rfl rfl cd_X7_isLetter ⟨(Nat.le_of_ble_eq_true rfl), (Nat.le_of_ble_eq_true rfl)⟩) (cq_R_S hK hP [] rfl) rfl rfl hl.1 rfl (lv_room (Nat.le_of_ble_eq_true rfl)) dX7_token_42 ⟨Nat.le_refl _, Nat.le_refl _⟩) (fun u42 hd => ?_)
          refine lv_istore_n (lv' := [(1, .int u42), (0, .ref (a_m 0))]) hx hb dX7_token_45 rfl hl (Nat.le_of_ble_eq_true rfl) rfl (fun ls hl => ?_)
          refine lv_aload_n hx hb dX7_token_46 rfl (lv_at hl 1 rfl) ?_
          refine lv_aload_n hx hb dX7_token_47 rfl (lv_at hl 1 rfl) ?_
          refine rx_get hx hb hts fiX7_token_X7 hown hK hP 0 rfl rfl 10 (Nat.le_of_ble_eq_true rfl) fl_182 rfl rfl dX7_token_48 ?_
          refine rx_roi hd (fun v hv => W.runV (As := [.int (mgFrom s_m)]) (rest := []) hcf (c_X7_byteAt l dC dI cI cJ cQ fu a_m  s_m (mgFrom s_m) v hv) (cwV 1 hts gX7_token_X7_byteAt rfl rfl rfl cd_X7_byteAt ⟨(Nat.le_of_ble_eq_true rfl), (Nat.le_of_ble_eq_true rfl)⟩) (cq_R_V1 (q0 := 0) (ci := 6) hK hP rfl rfl) rfl rfl hl.1 rfl (lv_room (Nat.le_of_ble_eq_true rfl)) dX7_token_51 ⟨Nat.le_refl _, Nat.le_refl _⟩) (fun u51 hd => ?_)
          refine rx_roi hd (fun v hv => W.runS (As := [.int u51]) (rest := []) hcf (c_X7_isDigit l dC dI cI cJ cQ fu    u51 v hv) (va_cwS 1 hts gX7_token_X7_isDigit rfl rfl rfl cd_X7_isDigit ⟨(Nat.le_of_ble_eq_true rfl), (Nat.le_of_ble_eq_true rfl)⟩) (cq_R_S hK hP [] rfl) rfl rfl hl.1 rfl (lv_room (Nat.le_of_ble_eq_true rfl)) dX7_token_54 ⟨Nat.le_refl _, Nat.le_refl _⟩) (fun u54 hd => ?_)
          refine lv_istore_n (lv' := [(2, .int u54), (1, .int u42), (0, .ref (a_m 0))]) hx hb dX7_token_57 rfl hl (Nat.le_of_ble_eq_true rfl) rfl (fun ls hl => ?_)
          refine lv_aload_n hx hb dX7_token_58 rfl (lv_at hl 2 rfl) ?_
          refine lv_aload_n hx hb dX7_token_59 rfl (lv_at hl 2 rfl) ?_
          refine rx_get hx hb hts fiX7_token_X7 hown hK hP 0 rfl rfl 10 (Nat.le_of_ble_eq_true rfl) fl_182 rfl rfl dX7_token_60 ?_
          refine lv_aload_n hx hb dX7_token_63 rfl (lv_at hl 2 rfl) ?_
          refine rx_get hx hb hts fiX7_token_X7 hown hK hP 0 rfl rfl 9 (Nat.le_of_ble_eq_true rfl) fl_168 rfl rfl dX7_token_64 ?_
          refine rx_icmp_ge hx hb 79 dX7_token_67 rfl hd (fun hd => ?_) (fun hd => ?_)
          · refine lv_aload_n hx hb dX7_token_79 rfl (lv_at hl 2 rfl) ?_
            refine rx_get hx hb hts fiX7_token_X7 hown hK hP 0 rfl rfl 10 (Nat.le_of_ble_eq_true rfl) fl_182 rfl rfl dX7_token_80 ?_
            refine rx_puti (wM cI cJ a_m (msTo s_m (mgFrom s_m))) hx hb hts fiX7_token_X7 tyX7 tyX7_ok nmX7 hown hK hP hD hS 0 rfl rfl 11 (Nat.le_of_ble_eq_true rfl) fl_179 rfl rfl rfl (Nat.le_of_ble_eq_true rfl) (wM_sTo ..) dX7_token_83 (fun H locs hP hD hS => ?_)
            exact b86   u42 u54 (msTo s_m (mgFrom s_m)) hd _ _ _ hP hD hS (lv_sub hl [2, 1, 0] rfl)
          refine lv_aload_n hx hb dX7_token_70 rfl (lv_at hl 2 rfl) ?_
          refine rx_get hx hb hts fiX7_token_X7 hown hK hP 0 rfl rfl 10 (Nat.le_of_ble_eq_true rfl) fl_182 rfl rfl dX7_token_71 ?_
          refine lv_iconst (v := 1) hx hb dX7_token_74 ki_1 ?_
          refine lv_iadd hx hb dX7_token_75 ?_
          refine lv_goto (tgt := 83) hx hb dX7_token_76 rfl ?_
          refine rx_puti (wM cI cJ a_m (msTo s_m ((mgFrom s_m) + (1 : Int32)))) hx hb hts fiX7_token_X7 tyX7 tyX7_ok nmX7 hown hK hP hD hS 0 rfl rfl 11 (Nat.le_of_ble_eq_true rfl) fl_179 rfl rfl rfl (Nat.le_of_ble_eq_true rfl) (wM_sTo ..) dX7_token_83 (fun H locs hP hD hS => ?_)
          exact b86   u42 u54 (msTo s_m ((mgFrom s_m) + (1 : Int32))) hd _ _ _ hP hD hS (lv_sub hl [2, 1, 0] rfl)
        refine lv_aload_n hx hb dX7_token_21 rfl (lv_at hl 0 rfl) ?_
        refine lv_dup hx hb dX7_token_22 rfl ?_
        refine rx_get hx hb hts fiX7_token_X7 hown hK hP 0 rfl rfl 10 (Nat.le_of_ble_eq_true rfl) fl_182 rfl rfl dX7_token_23 ?_
        refine lv_iconst (v := 1) hx hb dX7_token_26 ki_1 ?_
        refine lv_iadd hx hb dX7_token_27 ?_
        refine rx_puti (wM cI cJ a_m (msFrom s_m ((mgFrom s_m) + (1 : Int32)))) hx hb hts fiX7_token_X7 tyX7 tyX7_ok nmX7 hown hK hP hD hS 0 rfl rfl 10 (Nat.le_of_ble_eq_true rfl) fl_182 rfl rfl rfl (Nat.le_of_ble_eq_true rfl) (wM_sFrom ..) dX7_token_28 (fun H locs hP hD hS => ?_)
        refine lv_goto (tgt := 8) hx hb dX7_token_31 rfl ?_
        exact k8 (msFrom s_m ((mgFrom s_m) + (1 : Int32))) hd _ _ _ hP hD hS (lv_sub hl [0] rfl)
    exact fun s_m => L fu s_m
  refine lv_aload_n hx hb dX7_token_0 rfl (lv_at hl 0 rfl) ?_
  refine lv_aload_n hx hb dX7_token_1 rfl (lv_at hl 0 rfl) ?_
  refine rx_get hx hb hts fiX7_token_X7 hown hK hP 0 rfl rfl 11 (Nat.le_of_ble_eq_true rfl) fl_179 rfl rfl dX7_token_2 ?_
  refine rx_puti (wM cI cJ a_m (msFrom s_m (mgTo s_m))) hx hb hts fiX7_token_X7 tyX7 tyX7_ok nmX7 hown hK hP hD hS 0 rfl rfl 10 (Nat.le_of_ble_eq_true rfl) fl_182 rfl rfl rfl (Nat.le_of_ble_eq_true rfl) (wM_sFrom ..) dX7_token_5 (fun H locs hP hD hS => ?_)
  exact b8   (msFrom s_m (mgTo s_m)) hd _ _ _ hP hD hS (lv_sub hl [0] rfl)
theorem fiX7_must_X7 : ∀ w ∈ wsX70, w ∈ wsX7_must := mem_r _ [28, 29, 30, 31, 32, 33, 34, 35, 36, 37, 38, 39, 40, 41, 42, 43, 44, 45] rfl
set_option maxHeartbeats 8000000 in
set_option maxRecDepth 100000 in
theorem c_X7_must (l : Launch) (dC : Nat → ClassId) (dI : Nat → Nat → Nat) (cI cJ cQ : ClassId) (fu : Nat) (a_m : Nat → Nat) (sz : Nat) (s_m : MS) (x1 : Int32) (r : MS) (hd : fX7_must fu  s_m x1 = some r) : mUv l yX7_must wsX7_must (gRm 3 67) [.ref (a_m 0), .int x1] (dC, dI) vwCl (gty cI cJ cQ) (wM cI cJ a_m s_m) sz (fun u : MS => (wM cI cJ a_m u)) r := by
  refine Met.ofW (cc := cX7_must) (maxL := 2) (ret := none) (by decide) rfl ?_
  intro p e s m args below meth c s₁ B hml hv
  obtain ⟨hav, hsz, hP, hK, hD0⟩ := hv
  subst hsz
  have hD := hD0.self (sz := s.heap.size)
  generalize hAe : va_A (wM cI cJ a_m s_m) s.heap.size = A at hD ⊢
  have hA : ∀ q : Nat, s.heap.size ≤ q → A q := fun q h => by rw [← hAe]; exact Or.inr h
  have hS : va_S A s.heap s.heap [] := va_S.rf
  have hx := B.exec
  have hb := B.bytes
  have hr := B.returns
  have hts := atoms_spec (ws := wsX7_must) B.pre
  have hown : s.vm.findClass RX7 = some m.cls := findClass_of_methodNamed B.named
  have hlocks := B.notSynchronized
  have hcf : CallFix p m c cX7_must 2 s args wsX7_must RX7 := ⟨hx, hb, hml, hown, hts⟩
  have fl_194 := hts (.fieldLink RX7 194 "BucketGiftModel" "isWrong" "Z") (List.mem_of_getElem? (i := 1) rfl)
  have hg : entryFrame m args 2 = entryFrame m ([.ref (a_m 0), .int x1] : List Value).toArray 2 := by rw [hav]
  rw [hg, lg_entry_eq]
  have hl := lv_entry ([.ref (a_m 0), .int x1]) (n := 2) (Nat.le_of_ble_eq_true rfl)
  generalize (lg_sl ([.ref (a_m 0), .int x1]) ++ List.replicate (2 - (lg_sl ([.ref (a_m 0), .int x1])).length) Slot.unset).toArray = ls at hl ⊢
  have hl : lv_has ls 2 [(0, .ref (a_m 0)), (1, .int x1)] := hl
  clear hg
  unfold fX7_must at hd
  have b17 : ∀ (s_m : MS) (y0 : Int32), fX7_must_b17 fu    s_m y0 = some r → bk_U p l e (headSpec wsX7_must (gRm 3 67)).room s m args below meth c (qUv below args s (dC, dI) vwCl (gty cI cJ cQ) A (fun u : MS => (wM cI cJ a_m u)) r) (dC, dI) vwCl A 2 (wM cI cJ a_m s_m) 17 [(0, .ref (a_m 0))] [.int y0, .ref (a_m 0)] := by
    intro s_m y0 hd
    intro H locs ls hP hD hS hl
    unfold fX7_must_b17 at hd
    refine rx_putz (wM cI cJ a_m (msIsWrong s_m y0)) hx hb hts fiX7_must_X7 tyX7 tyX7_ok nmX7 hown hK hP hD hS 0 rfl rfl 13 (Nat.le_of_ble_eq_true rfl) fl_194 rfl rfl rfl (Nat.le_of_ble_eq_true rfl) hd (wM_sIsWrong ..) dX7_must_17 (fun hd H locs hP hD hS => ?_)
    refine lv_aload_n hx hb dX7_must_20 rfl (lv_at hl 0 rfl) ?_
    refine rx_get hx hb hts fiX7_must_X7 hown hK hP 0 rfl rfl 13 (Nat.le_of_ble_eq_true rfl) fl_194 rfl rfl dX7_must_21 ?_
    refine rx_if_ne hx hb 31 dX7_must_24 rfl hd (fun hd => ?_) (fun hd => ?_)
    · exact rx_retUv (u := (msIsWrong s_m y0)) (w1 := (fun u : MS => (wM cI cJ a_m u))) hx hb hr hlocks hd hK hP hD hS dX7_must_31
    refine lv_aload_n hx hb dX7_must_27 rfl (lv_at hl 0 rfl) ?_
    refine rx_upv1 hd hD hS hA (fun v hv => va_runV (As := []) (rest := []) hcf (c_X7_token l dC dI cI cJ cQ fu a_m _  (msIsWrong s_m y0)  v hv) (cwV 0 hts gX7_must_X7_token rfl rfl rfl cd_X7_token ⟨(Nat.le_of_ble_eq_true rfl), (Nat.le_of_ble_eq_true rfl)⟩) (cq_U_V1 (q0 := 0) (ci := 6) hK hP hD rfl rfl) rfl rfl hl.1 rfl (lv_room (Nat.le_of_ble_eq_true rfl)) dX7_must_28 ⟨Nat.le_refl _, Nat.le_refl _⟩) (fun u28 hd H locs hP hD hS => ?_)
    exact rx_retUv (u := u28) (w1 := (fun u : MS => (wM cI cJ a_m u))) hx hb hr hlocks hd hK hP hD hS dX7_must_31
  refine lv_aload_n hx hb dX7_must_0 rfl (lv_at hl 0 rfl) ?_
  refine lv_aload_n hx hb dX7_must_1 rfl (lv_at hl 0 rfl) ?_
  refine rx_get hx hb hts fiX7_must_X7 hown hK hP 0 rfl rfl 13 (Nat.le_of_ble_eq_true rfl) fl_194 rfl rfl dX7_must_2 ?_
  refine rx_if_ne hx hb 12 dX7_must_5 rfl hd (fun hd => ?_) (fun hd => ?_)
  · refine lv_iconst (v := 1) hx hb dX7_must_12 ki_1 ?_
    refine lv_goto (tgt := 17) hx hb dX7_must_13 rfl ?_
    exact b17   s_m (1 : Int32) hd _ _ _ hP hD hS (lv_sub hl [0] rfl)
  refine lv_iload_n hx hb dX7_must_8 rfl (lv_at hl 1 rfl) ?_
  refine rx_if_ne hx hb 16 dX7_must_9 rfl hd (fun hd => ?_) (fun hd => ?_)
  · refine lv_iconst (v := 0) hx hb dX7_must_16 ki_0 ?_
    exact b17   s_m (0 : Int32) hd _ _ _ hP hD hS (lv_sub hl [0] rfl)
  refine lv_iconst (v := 1) hx hb dX7_must_12 ki_1 ?_
  refine lv_goto (tgt := 17) hx hb dX7_must_13 rfl ?_
  exact b17   s_m (1 : Int32) hd _ _ _ hP hD hS (lv_sub hl [0] rfl)
theorem fiX7_word_X7 : ∀ w ∈ wsX70, w ∈ wsX7_word := mem_r _ [21, 22, 23, 24, 25, 26, 27, 28, 29, 30, 31, 32, 33, 34, 35, 36, 37, 38] rfl
set_option maxHeartbeats 8000000 in
set_option maxRecDepth 100000 in
theorem c_X7_word (l : Launch) (dC : Nat → ClassId) (dI : Nat → Nat → Nat) (cI cJ cQ : ClassId) (fu : Nat) (a_m : Nat → Nat) (s_m : MS)  (r : Int64) (hd : fX7_word fu  s_m  = some r) : mRl l yX7_word wsX7_word (gRm 2 45) [.ref (a_m 0)] (cq_R (dC, dI) vwCl (gty cI cJ cQ) (wM cI cJ a_m s_m)) r := by
  refine Met.ofW (cc := cX7_word) (maxL := 4) (ret := (some .long)) (by decide) rfl ?_
  intro p e s m args below meth c s₁ B hml hv
  obtain ⟨hav, hP, hK⟩ := hv
  have hx := B.exec
  have hb := B.bytes
  have hr := B.returns
  have hts := atoms_spec (ws := wsX7_word) B.pre
  have hown : s.vm.findClass RX7 = some m.cls := findClass_of_methodNamed B.named
  have hlocks := B.notSynchronized
  have hcf : CallFix p m c cX7_word 4 s args wsX7_word RX7 := ⟨hx, hb, hml, hown, hts⟩
  have fl_182 := hts (.fieldLink RX7 182 "BucketGiftModel" "from" "I") (List.mem_of_getElem? (i := 1) rfl)
  have fl_179 := hts (.fieldLink RX7 179 "BucketGiftModel" "to" "I") (List.mem_of_getElem? (i := 2) rfl)
  have fl_194 := hts (.fieldLink RX7 194 "BucketGiftModel" "isWrong" "Z") (List.mem_of_getElem? (i := 6) rfl)
  have fl_28 := hts (.fieldLink RX7 28 "BucketGiftModel" "tape" "[I") (List.mem_of_getElem? (i := 5) rfl)
  have kc_201 := hts (.constantLong RX7 201 (36028797018963967)) (List.mem_of_getElem? (i := 3) rfl)
  have kc_203 := hts (.constantLong RX7 203 (32)) (List.mem_of_getElem? (i := 4) rfl)
  have hg : entryFrame m args 4 = entryFrame m ([.ref (a_m 0)] : List Value).toArray 4 := by rw [hav]
  rw [hg, lg_entry_eq]
  have hl := lv_entry ([.ref (a_m 0)]) (n := 4) (Nat.le_of_ble_eq_true rfl)
  generalize (lg_sl ([.ref (a_m 0)]) ++ List.replicate (4 - (lg_sl ([.ref (a_m 0)])).length) Slot.unset).toArray = ls at hl ⊢
  have hl : lv_has ls 4 [(0, .ref (a_m 0))] := hl
  clear hg
  unfold fX7_word at hd
  have b7 : ∀ (x1 : Int64) (x3 : Int32), fX7_word_b7 fu s_m    x1 x3 = some r → bk_R p l e (headSpec wsX7_word (gRm 2 45)).room s m args below meth c (qRl below args s r) 4 7 [(0, .ref (a_m 0)), (1, .long x1), (3, .int x3)] [] := by
    have L : ∀ (n : Nat) (x1 : Int64) (x3 : Int32), g_lp (fun _ _ => none) (fX7_word_b7B fu s_m   ) n x1 x3 = some r → bk_R p l e (headSpec wsX7_word (gRm 2 45)).room s m args below meth c (qRl below args s r) 4 7 [(0, .ref (a_m 0)), (1, .long x1), (3, .int x3)] [] := by
      intro n
      induction n with
      | zero => intro x1 x3 hd; exact absurd hd (by intro h; cases h)
      | succ n k7 =>
        intro x1 x3 hd
        intro ls hl
        have hd : fX7_word_b7B fu s_m    (g_lp (fun _ _ => none) (fX7_word_b7B fu s_m   ) n) x1 x3 = some r := hd
        unfold fX7_word_b7B at hd
        refine lv_iload_n hx hb dX7_word_7 rfl (lv_at hl 2 rfl) ?_
        refine lv_aload_n hx hb dX7_word_8 rfl (lv_at hl 0 rfl) ?_
        refine rx_get hx hb hts fiX7_word_X7 hown hK hP 0 rfl rfl 11 (Nat.le_of_ble_eq_true rfl) fl_179 rfl rfl dX7_word_9 ?_
        refine rx_icmp_ge hx hb 50 dX7_word_12 rfl hd (fun hd => ?_) (fun hd => ?_)
        · refine lv_aload_n hx hb dX7_word_50 rfl (lv_at hl 0 rfl) ?_
          refine rx_get hx hb hts fiX7_word_X7 hown hK hP 0 rfl rfl 13 (Nat.le_of_ble_eq_true rfl) fl_194 rfl rfl dX7_word_51 ?_
          refine rx_if_ne hx hb 71 dX7_word_54 rfl hd (fun hd => ?_) (fun hd => ?_)
          · refine lv_lconst (v := 0) hx hb dX7_word_71 rfl ?_
            refine lv_goto (tgt := 76) hx hb dX7_word_72 rfl ?_
            exact rx_retRl hx hb hr hlocks hd dX7_word_76
          refine lv_aload_n hx hb dX7_word_57 rfl (lv_at hl 0 rfl) ?_
          refine lv_aload_n hx hb dX7_word_58 rfl (lv_at hl 0 rfl) ?_
          refine rx_get hx hb hts fiX7_word_X7 hown hK hP 0 rfl rfl 10 (Nat.le_of_ble_eq_true rfl) fl_182 rfl rfl dX7_word_59 ?_
          refine rx_roi hd (fun v hv => W.runV (As := [.int (mgFrom s_m)]) (rest := []) hcf (c_X7_byteAt l dC dI cI cJ cQ fu a_m  s_m (mgFrom s_m) v hv) (cwV 1 hts gX7_word_X7_byteAt rfl rfl rfl cd_X7_byteAt ⟨(Nat.le_of_ble_eq_true rfl), (Nat.le_of_ble_eq_true rfl)⟩) (cq_R_V1 (q0 := 0) (ci := 6) hK hP rfl rfl) rfl rfl hl.1 rfl (lv_room (Nat.le_of_ble_eq_true rfl)) dX7_word_62 ⟨Nat.le_refl _, Nat.le_refl _⟩) (fun u62 hd => ?_)
          refine rx_roi hd (fun v hv => W.runS (As := [.int u62]) (rest := []) hcf (c_X7_isLetter l dC dI cI cJ cQ fu    u62 v hv) (va_cwS 1 hts gX7_word_X7_isLetter rfl rfl rfl cd_X7_isLetter ⟨(Nat.le_of_ble_eq_true rfl), (Nat.le_of_ble_eq_true rfl)⟩) (cq_R_S hK hP [] rfl) rfl rfl hl.1 rfl (lv_room (Nat.le_of_ble_eq_true rfl)) dX7_word_65 ⟨Nat.le_refl _, Nat.le_refl _⟩) (fun u65 hd => ?_)
          refine rx_if_ne hx hb 75 dX7_word_68 rfl hd (fun hd => ?_) (fun hd => ?_)
          · refine lv_lload_n hx hb dX7_word_75 rfl (lv_at hl 1 rfl) ?_
            exact rx_retRl hx hb hr hlocks hd dX7_word_76
          refine lv_lconst (v := 0) hx hb dX7_word_71 rfl ?_
          refine lv_goto (tgt := 76) hx hb dX7_word_72 rfl ?_
          exact rx_retRl hx hb hr hlocks hd dX7_word_76
        refine lv_lload_n hx hb dX7_word_15 rfl (lv_at hl 1 rfl) ?_
        refine lv_ldc2 hx hb hown kc_201 dX7_word_16 ?_
        refine W.lcmp hx hb dX7_word_19 ?_
        refine rx_if_le hx hb 27 dX7_word_20 rfl hd (fun hd => ?_) (fun hd => ?_)
        · refine lv_ldc2 hx hb hown kc_203 dX7_word_27 ?_
          refine lv_lload_n hx hb dX7_word_30 rfl (lv_at hl 1 rfl) ?_
          refine lv_lmul hx hb dX7_word_31 ?_
          refine lv_aload_n hx hb dX7_word_32 rfl (lv_at hl 0 rfl) ?_
          refine rx_get hx hb hts fiX7_word_X7 hown hK hP 0 rfl rfl 8 (Nat.le_of_ble_eq_true rfl) fl_28 rfl rfl dX7_word_33 ?_
          refine lv_iload_n hx hb dX7_word_36 rfl (lv_at hl 2 rfl) ?_
          refine rx_iald hx hb hK hP 7 0 rfl rfl hd dX7_word_37 (fun v37 hd => ?_)
          refine lv_bipush (v := 96) hx hb dX7_word_38 kb_96 ?_
          refine lv_isub hx hb dX7_word_40 ?_
          refine lv_i2l hx hb dX7_word_41 rfl ?_
          refine lv_ladd hx hb dX7_word_42 ?_
          refine rx_topl hd (fun x1_43 hd => ?_)
          refine lv_lstore_n (lv' := [(1, .long x1_43), (0, .ref (a_m 0)), (3, .int x3)]) hx hb dX7_word_43 rfl hl (Nat.le_of_ble_eq_true rfl) rfl (fun ls hl => ?_)
          refine rx_iinc (lv' := fun z => (3, .int z) :: [(1, .long x1_43), (0, .ref (a_m 0))]) hx hb (j := 2) dX7_word_44 hl rfl ki_1 hd (Nat.le_of_ble_eq_true rfl) (fun _ => rfl) (fun x3_44 hd ls hl => ?_)
          refine lv_goto (tgt := 7) hx hb dX7_word_47 rfl ?_
          exact k7 x1_43 x3_44 hd _ (lv_sub hl [2, 1, 0] rfl)
        refine lv_lload_n hx hb dX7_word_23 rfl (lv_at hl 1 rfl) ?_
        refine lv_goto (tgt := 43) hx hb dX7_word_24 rfl ?_
        refine lv_lstore_n (lv' := [(1, .long x1), (0, .ref (a_m 0)), (3, .int x3)]) hx hb dX7_word_43 rfl hl (Nat.le_of_ble_eq_true rfl) rfl (fun ls hl => ?_)
        refine rx_iinc (lv' := fun z => (3, .int z) :: [(1, .long x1), (0, .ref (a_m 0))]) hx hb (j := 2) dX7_word_44 hl rfl ki_1 hd (Nat.le_of_ble_eq_true rfl) (fun _ => rfl) (fun x3_44 hd ls hl => ?_)
        refine lv_goto (tgt := 7) hx hb dX7_word_47 rfl ?_
        exact k7 x1 x3_44 hd _ (lv_sub hl [2, 1, 0] rfl)
    exact fun x1 x3 => L fu x1 x3
  refine lv_lconst (v := 0) hx hb dX7_word_0 rfl ?_
  refine lv_lstore_n (lv' := [(1, .long (0 : Int64)), (0, .ref (a_m 0))]) hx hb dX7_word_1 rfl hl (Nat.le_of_ble_eq_true rfl) rfl (fun ls hl => ?_)
  refine lv_aload_n hx hb dX7_word_2 rfl (lv_at hl 1 rfl) ?_
  refine rx_get hx hb hts fiX7_word_X7 hown hK hP 0 rfl rfl 10 (Nat.le_of_ble_eq_true rfl) fl_182 rfl rfl dX7_word_3 ?_
  refine rx_topi hd (fun x3_6 hd => ?_)
  refine lv_istore_n (lv' := [(3, .int x3_6), (1, .long (0 : Int64)), (0, .ref (a_m 0))]) hx hb dX7_word_6 rfl hl (Nat.le_of_ble_eq_true rfl) rfl (fun ls hl => ?_)
  exact b7   (0 : Int64) x3_6 hd _ (lv_sub hl [2, 1, 0] rfl)
theorem fiX7_number_X7 : ∀ w ∈ wsX70, w ∈ wsX7_number := mem_r _ [33, 34, 35, 36, 37, 38, 39, 40, 41, 42, 43, 44, 45, 46, 47, 48, 49, 50] rfl
set_option maxHeartbeats 8000000 in
set_option maxRecDepth 100000 in
theorem c_X7_number (l : Launch) (dC : Nat → ClassId) (dI : Nat → Nat → Nat) (cI cJ cQ : ClassId) (fu : Nat) (a_m : Nat → Nat) (sz : Nat) (s_m : MS) (x1 : Int32) (x2 : Int32) (r : MS) (hd : fX7_number fu  s_m x1 x2 = some r) : mUv l yX7_number wsX7_number (gRm 4 88) [.ref (a_m 0), .int x1, .int x2] (dC, dI) vwCl (gty cI cJ cQ) (wM cI cJ a_m s_m) sz (fun u : MS => (wM cI cJ a_m u)) r := by
  refine Met.ofW (cc := cX7_number) (maxL := 6) (ret := none) (by decide) rfl ?_
  intro p e s m args below meth c s₁ B hml hv
  obtain ⟨hav, hsz, hP, hK, hD0⟩ := hv
  subst hsz
  have hD := hD0.self (sz := s.heap.size)
  generalize hAe : va_A (wM cI cJ a_m s_m) s.heap.size = A at hD ⊢
  have hA : ∀ q : Nat, s.heap.size ≤ q → A q := fun q h => by rw [← hAe]; exact Or.inr h
  have hS : va_S A s.heap s.heap [] := va_S.rf
  have hx := B.exec
  have hb := B.bytes
  have hr := B.returns
  have hts := atoms_spec (ws := wsX7_number) B.pre
  have hown : s.vm.findClass RX7 = some m.cls := findClass_of_methodNamed B.named
  have hlocks := B.notSynchronized
  have hcf : CallFix p m c cX7_number 6 s args wsX7_number RX7 := ⟨hx, hb, hml, hown, hts⟩
  have fl_194 := hts (.fieldLink RX7 194 "BucketGiftModel" "isWrong" "Z") (List.mem_of_getElem? (i := 1) rfl)
  have fl_182 := hts (.fieldLink RX7 182 "BucketGiftModel" "from" "I") (List.mem_of_getElem? (i := 2) rfl)
  have fl_179 := hts (.fieldLink RX7 179 "BucketGiftModel" "to" "I") (List.mem_of_getElem? (i := 3) rfl)
  have fl_205 := hts (.fieldLink RX7 205 "BucketGiftModel" "value" "I") (List.mem_of_getElem? (i := 5) rfl)
  have fl_28 := hts (.fieldLink RX7 28 "BucketGiftModel" "tape" "[I") (List.mem_of_getElem? (i := 4) rfl)
  have hg : entryFrame m args 6 = entryFrame m ([.ref (a_m 0), .int x1, .int x2] : List Value).toArray 6 := by rw [hav]
  rw [hg, lg_entry_eq]
  have hl := lv_entry ([.ref (a_m 0), .int x1, .int x2]) (n := 6) (Nat.le_of_ble_eq_true rfl)
  generalize (lg_sl ([.ref (a_m 0), .int x1, .int x2]) ++ List.replicate (6 - (lg_sl ([.ref (a_m 0), .int x1, .int x2])).length) Slot.unset).toArray = ls at hl ⊢
  have hl : lv_has ls 6 [(0, .ref (a_m 0)), (1, .int x1), (2, .int x2)] := hl
  clear hg
  unfold fX7_number at hd
  have b108 : ∀ (s_m : MS) (y0 : Int32), fX7_number_b108 fu    s_m y0 = some r → bk_U p l e (headSpec wsX7_number (gRm 4 88)).room s m args below meth c (qUv below args s (dC, dI) vwCl (gty cI cJ cQ) A (fun u : MS => (wM cI cJ a_m u)) r) (dC, dI) vwCl A 6 (wM cI cJ a_m s_m) 108 [] [.int y0, .ref (a_m 0)] := by
    intro s_m y0 hd
    intro H locs ls hP hD hS hl
    unfold fX7_number_b108 at hd
    refine rx_upv1 hd hD hS hA (fun v hv => va_runV (As := [.int y0]) (rest := []) hcf (c_X7_must l dC dI cI cJ cQ fu a_m _  s_m y0 v hv) (cwV 1 hts gX7_number_X7_must rfl rfl rfl cd_X7_must ⟨(Nat.le_of_ble_eq_true rfl), (Nat.le_of_ble_eq_true rfl)⟩) (cq_U_V1 (q0 := 0) (ci := 6) hK hP hD rfl rfl) rfl rfl hl.1 rfl (lv_room (Nat.le_of_ble_eq_true rfl)) dX7_number_108 ⟨Nat.le_refl _, Nat.le_refl _⟩) (fun u108 hd H locs hP hD hS => ?_)
    exact rx_retUv (u := u108) (w1 := (fun u : MS => (wM cI cJ a_m u))) hx hb hr hlocks hd hK hP hD hS dX7_number_111
  have b79 : ∀ (s_m : MS) (x1 : Int32) (x2 : Int32) (x3 : Int32) (x4 : Int32), fX7_number_b79 fu    s_m x1 x2 x3 x4 = some r → bk_U p l e (headSpec wsX7_number (gRm 4 88)).room s m args below meth c (qUv below args s (dC, dI) vwCl (gty cI cJ cQ) A (fun u : MS => (wM cI cJ a_m u)) r) (dC, dI) vwCl A 6 (wM cI cJ a_m s_m) 79 [(0, .ref (a_m 0)), (1, .int x1), (2, .int x2), (3, .int x3), (4, .int x4)] [] := by
    intro s_m x1 x2 x3 x4 hd
    intro H locs ls hP hD hS hl
    unfold fX7_number_b79 at hd
    refine lv_aload_n hx hb dX7_number_79 rfl (lv_at hl 0 rfl) ?_
    refine lv_iload hx hb dX7_number_80 (lv_at hl 4 rfl) ?_
    refine rx_puti (wM cI cJ a_m (msValue s_m x4)) hx hb hts fiX7_number_X7 tyX7 tyX7_ok nmX7 hown hK hP hD hS 0 rfl rfl 12 (Nat.le_of_ble_eq_true rfl) fl_205 rfl rfl rfl (Nat.le_of_ble_eq_true rfl) (wM_sValue ..) dX7_number_82 (fun H locs hP hD hS => ?_)
    refine lv_aload_n hx hb dX7_number_85 rfl (lv_at hl 0 rfl) ?_
    refine lv_iload_n hx hb dX7_number_86 rfl (lv_at hl 3 rfl) ?_
    refine rx_if_eq hx hb 107 dX7_number_87 rfl hd (fun hd => ?_) (fun hd => ?_)
    · refine lv_iconst (v := 0) hx hb dX7_number_107 ki_0 ?_
      exact b108   (msValue s_m x4) (0 : Int32) hd _ _ _ hP hD hS (lv_sub hl [] rfl)
    refine lv_iload hx hb dX7_number_90 (lv_at hl 4 rfl) ?_
    refine lv_i2l hx hb dX7_number_92 rfl ?_
    refine lv_iload_n hx hb dX7_number_93 rfl (lv_at hl 1 rfl) ?_
    refine lv_i2l hx hb dX7_number_94 rfl ?_
    refine lv_iload_n hx hb dX7_number_95 rfl (lv_at hl 2 rfl) ?_
    refine lv_i2l hx hb dX7_number_96 rfl ?_
    refine rx_roi hd (fun v hv => W.runS (As := [.long (Int32.toInt64 x4), .long (Int32.toInt64 x1), .long (Int32.toInt64 x2)]) (rest := [.ref (a_m 0)]) hcf (c_X7_in l dC dI cI cJ cQ fu    (Int32.toInt64 x4) (Int32.toInt64 x1) (Int32.toInt64 x2) v hv) (va_cwS 3 hts gX7_number_X7_in rfl rfl rfl cd_X7_in ⟨(Nat.le_of_ble_eq_true rfl), (Nat.le_of_ble_eq_true rfl)⟩) (cq_R_S hK hP [] rfl) rfl rfl hl.1 rfl (lv_room (Nat.le_of_ble_eq_true rfl)) dX7_number_97 ⟨Nat.le_refl _, Nat.le_refl _⟩) (fun u97 hd => ?_)
    refine rx_if_eq hx hb 107 dX7_number_100 rfl hd (fun hd => ?_) (fun hd => ?_)
    · refine lv_iconst (v := 0) hx hb dX7_number_107 ki_0 ?_
      exact b108   (msValue s_m x4) (0 : Int32) hd _ _ _ hP hD hS (lv_sub hl [] rfl)
    refine lv_iconst (v := 1) hx hb dX7_number_103 ki_1 ?_
    refine lv_goto (tgt := 108) hx hb dX7_number_104 rfl ?_
    exact b108   (msValue s_m x4) (1 : Int32) hd _ _ _ hP hD hS (lv_sub hl [] rfl)
  have b29 : ∀ (x1 : Int32) (x2 : Int32) (x3 : Int32) (s_m : MS) (x4 : Int32) (x5 : Int32), fX7_number_b29 fu    x1 x2 x3 s_m x4 x5 = some r → bk_U p l e (headSpec wsX7_number (gRm 4 88)).room s m args below meth c (qUv below args s (dC, dI) vwCl (gty cI cJ cQ) A (fun u : MS => (wM cI cJ a_m u)) r) (dC, dI) vwCl A 6 (wM cI cJ a_m s_m) 29 [(0, .ref (a_m 0)), (1, .int x1), (2, .int x2), (3, .int x3), (4, .int x4), (5, .int x5)] [] := by
    intro x1 x2 x3
    have L : ∀ (n : Nat) (s_m : MS) (x4 : Int32) (x5 : Int32), g_lp (fun _ _ _ => none) (fX7_number_b29B fu    x1 x2 x3) n s_m x4 x5 = some r → bk_U p l e (headSpec wsX7_number (gRm 4 88)).room s m args below meth c (qUv below args s (dC, dI) vwCl (gty cI cJ cQ) A (fun u : MS => (wM cI cJ a_m u)) r) (dC, dI) vwCl A 6 (wM cI cJ a_m s_m) 29 [(0, .ref (a_m 0)), (1, .int x1), (2, .int x2), (3, .int x3), (4, .int x4), (5, .int x5)] [] := by
      intro n
      induction n with
      | zero => intro s_m x4 x5 hd; exact absurd hd (by intro h; cases h)
      | succ n k29 =>
        intro s_m x4 x5 hd
        intro H locs ls hP hD hS hl
        have hd : fX7_number_b29B fu    x1 x2 x3 (g_lp (fun _ _ _ => none) (fX7_number_b29B fu    x1 x2 x3) n) s_m x4 x5 = some r := hd
        unfold fX7_number_b29B at hd
        refine lv_iload hx hb dX7_number_29 (lv_at hl 5 rfl) ?_
        refine lv_aload_n hx hb dX7_number_31 rfl (lv_at hl 0 rfl) ?_
        refine rx_get hx hb hts fiX7_number_X7 hown hK hP 0 rfl rfl 11 (Nat.le_of_ble_eq_true rfl) fl_179 rfl rfl dX7_number_32 ?_
        refine rx_icmp_ge hx hb 79 dX7_number_35 rfl hd (fun hd => ?_) (fun hd => ?_)
        · exact b79   s_m x1 x2 x3 x4 hd _ _ _ hP hD hS (lv_sub hl [0, 1, 2, 3, 4] rfl)
        refine lv_iload_n hx hb dX7_number_38 rfl (lv_at hl 3 rfl) ?_
        refine rx_if_eq hx hb 79 dX7_number_39 rfl hd (fun hd => ?_) (fun hd => ?_)
        · exact b79   s_m x1 x2 x3 x4 hd _ _ _ hP hD hS (lv_sub hl [0, 1, 2, 3, 4] rfl)
        refine lv_iload hx hb dX7_number_42 (lv_at hl 4 rfl) ?_
        refine lv_sipush (v := 9999) hx hb dX7_number_44 ks_9999 ?_
        refine rx_icmp_le hx hb 55 dX7_number_47 rfl hd (fun hd => ?_) (fun hd => ?_)
        · refine lv_bipush (v := 10) hx hb dX7_number_55 kb_10 ?_
          refine lv_iload hx hb dX7_number_57 (lv_at hl 4 rfl) ?_
          refine lv_imul hx hb dX7_number_59 ?_
          refine lv_aload_n hx hb dX7_number_60 rfl (lv_at hl 0 rfl) ?_
          refine rx_get hx hb hts fiX7_number_X7 hown hK hP 0 rfl rfl 8 (Nat.le_of_ble_eq_true rfl) fl_28 rfl rfl dX7_number_61 ?_
          refine lv_iload hx hb dX7_number_64 (lv_at hl 5 rfl) ?_
          refine rx_iald hx hb hK hP 7 0 rfl rfl hd dX7_number_66 (fun v66 hd => ?_)
          refine lv_iadd hx hb dX7_number_67 ?_
          refine lv_bipush (v := 48) hx hb dX7_number_68 kb_48 ?_
          refine lv_isub hx hb dX7_number_70 ?_
          refine rx_topi hd (fun x4_71 hd => ?_)
          refine lv_istore (lv' := [(4, .int x4_71), (0, .ref (a_m 0)), (1, .int x1), (2, .int x2), (3, .int x3), (5, .int x5)]) hx hb dX7_number_71 hl (Nat.le_of_ble_eq_true rfl) rfl (fun ls hl => ?_)
          refine rx_iinc (lv' := fun z => (5, .int z) :: [(4, .int x4_71), (0, .ref (a_m 0)), (1, .int x1), (2, .int x2), (3, .int x3)]) hx hb (j := 5) dX7_number_73 hl rfl ki_1 hd (Nat.le_of_ble_eq_true rfl) (fun _ => rfl) (fun x5_73 hd ls hl => ?_)
          refine lv_goto (tgt := 29) hx hb dX7_number_76 rfl ?_
          exact k29 s_m x4_71 x5_73 hd _ _ _ hP hD hS (lv_sub hl [2, 3, 4, 5, 1, 0] rfl)
        refine lv_iload hx hb dX7_number_50 (lv_at hl 4 rfl) ?_
        refine lv_goto (tgt := 71) hx hb dX7_number_52 rfl ?_
        refine lv_istore (lv' := [(4, .int x4), (0, .ref (a_m 0)), (1, .int x1), (2, .int x2), (3, .int x3), (5, .int x5)]) hx hb dX7_number_71 hl (Nat.le_of_ble_eq_true rfl) rfl (fun ls hl => ?_)
        refine rx_iinc (lv' := fun z => (5, .int z) :: [(4, .int x4), (0, .ref (a_m 0)), (1, .int x1), (2, .int x2), (3, .int x3)]) hx hb (j := 5) dX7_number_73 hl rfl ki_1 hd (Nat.le_of_ble_eq_true rfl) (fun _ => rfl) (fun x5_73 hd ls hl => ?_)
        refine lv_goto (tgt := 29) hx hb dX7_number_76 rfl ?_
        exact k29 s_m x4 x5_73 hd _ _ _ hP hD hS (lv_sub hl [2, 3, 4, 5, 1, 0] rfl)
    exact fun s_m x4 x5 => L fu s_m x4 x5
  refine lv_aload_n hx hb dX7_number_0 rfl (lv_at hl 0 rfl) ?_
  refine rx_get hx hb hts fiX7_number_X7 hown hK hP 0 rfl rfl 13 (Nat.le_of_ble_eq_true rfl) fl_194 rfl rfl dX7_number_1 ?_
  refine rx_if_eq hx hb 8 dX7_number_4 rfl hd (fun hd => ?_) (fun hd => ?_)
  · refine lv_aload_n hx hb dX7_number_8 rfl (lv_at hl 0 rfl) ?_
    refine lv_aload_n hx hb dX7_number_9 rfl (lv_at hl 0 rfl) ?_
    refine rx_get hx hb hts fiX7_number_X7 hown hK hP 0 rfl rfl 10 (Nat.le_of_ble_eq_true rfl) fl_182 rfl rfl dX7_number_10 ?_
    refine rx_roi hd (fun v hv => W.runV (As := [.int (mgFrom s_m)]) (rest := []) hcf (c_X7_byteAt l dC dI cI cJ cQ fu a_m  s_m (mgFrom s_m) v hv) (cwV 1 hts gX7_number_X7_byteAt rfl rfl rfl cd_X7_byteAt ⟨(Nat.le_of_ble_eq_true rfl), (Nat.le_of_ble_eq_true rfl)⟩) (cq_R_V1 (q0 := 0) (ci := 6) hK hP rfl rfl) rfl rfl hl.1 rfl (lv_room (Nat.le_of_ble_eq_true rfl)) dX7_number_13 ⟨Nat.le_refl _, Nat.le_refl _⟩) (fun u13 hd => ?_)
    refine rx_roi hd (fun v hv => W.runS (As := [.int u13]) (rest := []) hcf (c_X7_isDigit l dC dI cI cJ cQ fu    u13 v hv) (va_cwS 1 hts gX7_number_X7_isDigit rfl rfl rfl cd_X7_isDigit ⟨(Nat.le_of_ble_eq_true rfl), (Nat.le_of_ble_eq_true rfl)⟩) (cq_R_S hK hP [] rfl) rfl rfl hl.1 rfl (lv_room (Nat.le_of_ble_eq_true rfl)) dX7_number_16 ⟨Nat.le_refl _, Nat.le_refl _⟩) (fun u16 hd => ?_)
    refine lv_istore_n (lv' := [(3, .int u16), (0, .ref (a_m 0)), (1, .int x1), (2, .int x2)]) hx hb dX7_number_19 rfl hl (Nat.le_of_ble_eq_true rfl) rfl (fun ls hl => ?_)
    refine lv_iconst (v := 0) hx hb dX7_number_20 ki_0 ?_
    refine lv_istore (lv' := [(4, .int (0 : Int32)), (3, .int u16), (0, .ref (a_m 0)), (1, .int x1), (2, .int x2)]) hx hb dX7_number_21 hl (Nat.le_of_ble_eq_true rfl) rfl (fun ls hl => ?_)
    refine lv_aload_n hx hb dX7_number_23 rfl (lv_at hl 2 rfl) ?_
    refine rx_get hx hb hts fiX7_number_X7 hown hK hP 0 rfl rfl 10 (Nat.le_of_ble_eq_true rfl) fl_182 rfl rfl dX7_number_24 ?_
    refine rx_topi hd (fun x5_27 hd => ?_)
    refine lv_istore (lv' := [(5, .int x5_27), (4, .int (0 : Int32)), (3, .int u16), (0, .ref (a_m 0)), (1, .int x1), (2, .int x2)]) hx hb dX7_number_27 hl (Nat.le_of_ble_eq_true rfl) rfl (fun ls hl => ?_)
    exact b29   x1 x2 u16 s_m (0 : Int32) x5_27 hd _ _ _ hP hD hS (lv_sub hl [3, 4, 5, 2, 1, 0] rfl)
  exact rx_retUv (u := s_m) (w1 := (fun u : MS => (wM cI cJ a_m u))) hx hb hr hlocks hd hK hP hD hS dX7_number_7
set_option maxHeartbeats 8000000 in
set_option maxRecDepth 100000 in
theorem c_X7_kindHere (l : Launch) (dC : Nat → ClassId) (dI : Nat → Nat → Nat) (cI cJ cQ : ClassId) (fu : Nat) (a_m : Nat → Nat) (s_m : MS)  (r : Int32) (hd : fX7_kindHere fu  s_m  = some r) : mRi l yX7_kindHere wsX7_kindHere (gRm 3 68) [.ref (a_m 0)] (cq_R (dC, dI) vwCl (gty cI cJ cQ) (wM cI cJ a_m s_m)) r := by
  refine Met.ofW (cc := cX7_kindHere) (maxL := 3) (ret := (some .int)) (by decide) rfl ?_
  intro p e s m args below meth c s₁ B hml hv
  obtain ⟨hav, hP, hK⟩ := hv
  have hx := B.exec
  have hb := B.bytes
  have hr := B.returns
  have hts := atoms_spec (ws := wsX7_kindHere) B.pre
  have hown : s.vm.findClass RX7 = some m.cls := findClass_of_methodNamed B.named
  have hlocks := B.notSynchronized
  have hcf : CallFix p m c cX7_kindHere 3 s args wsX7_kindHere RX7 := ⟨hx, hb, hml, hown, hts⟩
  have kc_216 := hts (.constantLong RX7 216 (202978482)) (List.mem_of_getElem? (i := 1) rfl)
  have kc_218 := hts (.constantLong RX7 218 (395097)) (List.mem_of_getElem? (i := 2) rfl)
  have kc_220 := hts (.constantLong RX7 220 (370116)) (List.mem_of_getElem? (i := 3) rfl)
  have kc_222 := hts (.constantLong RX7 222 (674915359922)) (List.mem_of_getElem? (i := 4) rfl)
  have kc_224 := hts (.constantLong RX7 224 (630829)) (List.mem_of_getElem? (i := 5) rfl)
  have kc_226 := hts (.constantLong RX7 226 (556045940)) (List.mem_of_getElem? (i := 6) rfl)
  have hg : entryFrame m args 3 = entryFrame m ([.ref (a_m 0)] : List Value).toArray 3 := by rw [hav]
  rw [hg, lg_entry_eq]
  have hl := lv_entry ([.ref (a_m 0)]) (n := 3) (Nat.le_of_ble_eq_true rfl)
  generalize (lg_sl ([.ref (a_m 0)]) ++ List.replicate (3 - (lg_sl ([.ref (a_m 0)])).length) Slot.unset).toArray = ls at hl ⊢
  have hl : lv_has ls 3 [(0, .ref (a_m 0))] := hl
  clear hg
  unfold fX7_kindHere at hd
  refine lv_aload_n hx hb dX7_kindHere_0 rfl (lv_at hl 0 rfl) ?_
  refine rx_rol hd (fun v hv => W.runV (As := []) (rest := []) hcf (c_X7_word l dC dI cI cJ cQ fu a_m  s_m  v hv) (cwV 0 hts gX7_kindHere_X7_word rfl rfl rfl cd_X7_word ⟨(Nat.le_of_ble_eq_true rfl), (Nat.le_of_ble_eq_true rfl)⟩) (cq_R_V1 (q0 := 0) (ci := 6) hK hP rfl rfl) rfl rfl hl.1 rfl (lv_room (Nat.le_of_ble_eq_true rfl)) dX7_kindHere_1 ⟨Nat.le_refl _, Nat.le_refl _⟩) (fun u1 hd => ?_)
  refine lv_lstore_n (lv' := [(1, .long u1), (0, .ref (a_m 0))]) hx hb dX7_kindHere_4 rfl hl (Nat.le_of_ble_eq_true rfl) rfl (fun ls hl => ?_)
  refine lv_lload_n hx hb dX7_kindHere_5 rfl (lv_at hl 0 rfl) ?_
  refine lv_ldc2 hx hb hown kc_216 dX7_kindHere_6 ?_
  refine W.lcmp hx hb dX7_kindHere_9 ?_
  refine rx_if_ne hx hb 17 dX7_kindHere_10 rfl hd (fun hd => ?_) (fun hd => ?_)
  · refine lv_lload_n hx hb dX7_kindHere_17 rfl (lv_at hl 0 rfl) ?_
    refine lv_ldc2 hx hb hown kc_218 dX7_kindHere_18 ?_
    refine W.lcmp hx hb dX7_kindHere_21 ?_
    refine rx_if_ne hx hb 29 dX7_kindHere_22 rfl hd (fun hd => ?_) (fun hd => ?_)
    · refine lv_lload_n hx hb dX7_kindHere_29 rfl (lv_at hl 0 rfl) ?_
      refine lv_ldc2 hx hb hown kc_220 dX7_kindHere_30 ?_
      refine W.lcmp hx hb dX7_kindHere_33 ?_
      refine rx_if_ne hx hb 41 dX7_kindHere_34 rfl hd (fun hd => ?_) (fun hd => ?_)
      · refine lv_lload_n hx hb dX7_kindHere_41 rfl (lv_at hl 0 rfl) ?_
        refine lv_ldc2 hx hb hown kc_222 dX7_kindHere_42 ?_
        refine W.lcmp hx hb dX7_kindHere_45 ?_
        refine rx_if_ne hx hb 53 dX7_kindHere_46 rfl hd (fun hd => ?_) (fun hd => ?_)
        · refine lv_lload_n hx hb dX7_kindHere_53 rfl (lv_at hl 0 rfl) ?_
          refine lv_ldc2 hx hb hown kc_224 dX7_kindHere_54 ?_
          refine W.lcmp hx hb dX7_kindHere_57 ?_
          refine rx_if_ne hx hb 65 dX7_kindHere_58 rfl hd (fun hd => ?_) (fun hd => ?_)
          · refine lv_lload_n hx hb dX7_kindHere_65 rfl (lv_at hl 0 rfl) ?_
            refine lv_ldc2 hx hb hown kc_226 dX7_kindHere_66 ?_
            refine W.lcmp hx hb dX7_kindHere_69 ?_
            refine rx_if_ne hx hb 77 dX7_kindHere_70 rfl hd (fun hd => ?_) (fun hd => ?_)
            · refine lv_iconst (v := -1) hx hb dX7_kindHere_77 ki_m1 ?_
              exact rx_retRi hx hb hr hlocks hd dX7_kindHere_78
            refine lv_iconst (v := 5) hx hb dX7_kindHere_73 ki_5 ?_
            refine lv_goto (tgt := 78) hx hb dX7_kindHere_74 rfl ?_
            exact rx_retRi hx hb hr hlocks hd dX7_kindHere_78
          refine lv_iconst (v := 4) hx hb dX7_kindHere_61 ki_4 ?_
          refine lv_goto (tgt := 78) hx hb dX7_kindHere_62 rfl ?_
          exact rx_retRi hx hb hr hlocks hd dX7_kindHere_78
        refine lv_iconst (v := 3) hx hb dX7_kindHere_49 ki_3 ?_
        refine lv_goto (tgt := 78) hx hb dX7_kindHere_50 rfl ?_
        exact rx_retRi hx hb hr hlocks hd dX7_kindHere_78
      refine lv_iconst (v := 2) hx hb dX7_kindHere_37 ki_2 ?_
      refine lv_goto (tgt := 78) hx hb dX7_kindHere_38 rfl ?_
      exact rx_retRi hx hb hr hlocks hd dX7_kindHere_78
    refine lv_iconst (v := 1) hx hb dX7_kindHere_25 ki_1 ?_
    refine lv_goto (tgt := 78) hx hb dX7_kindHere_26 rfl ?_
    exact rx_retRi hx hb hr hlocks hd dX7_kindHere_78
  refine lv_iconst (v := 0) hx hb dX7_kindHere_13 ki_0 ?_
  refine lv_goto (tgt := 78) hx hb dX7_kindHere_14 rfl ?_
  exact rx_retRi hx hb hr hlocks hd dX7_kindHere_78
theorem fiX7_isNumberHere_X7 : ∀ w ∈ wsX70, w ∈ wsX7_isNumberHere := mem_r _ [18, 19, 20, 21, 22, 23, 24, 25, 26, 27, 28, 29, 30, 31, 32, 33, 34, 35] rfl
set_option maxHeartbeats 8000000 in
set_option maxRecDepth 100000 in
theorem c_X7_isNumberHere (l : Launch) (dC : Nat → ClassId) (dI : Nat → Nat → Nat) (cI cJ cQ : ClassId) (fu : Nat) (a_m : Nat → Nat) (s_m : MS)  (r : Int32) (hd : fX7_isNumberHere fu  s_m  = some r) : mRi l yX7_isNumberHere wsX7_isNumberHere (gRm 2 45) [.ref (a_m 0)] (cq_R (dC, dI) vwCl (gty cI cJ cQ) (wM cI cJ a_m s_m)) r := by
  refine Met.ofW (cc := cX7_isNumberHere) (maxL := 1) (ret := (some .boolean)) (by decide) rfl ?_
  intro p e s m args below meth c s₁ B hml hv
  obtain ⟨hav, hP, hK⟩ := hv
  have hx := B.exec
  have hb := B.bytes
  have hr := B.returns
  have hts := atoms_spec (ws := wsX7_isNumberHere) B.pre
  have hown : s.vm.findClass RX7 = some m.cls := findClass_of_methodNamed B.named
  have hlocks := B.notSynchronized
  have hcf : CallFix p m c cX7_isNumberHere 1 s args wsX7_isNumberHere RX7 := ⟨hx, hb, hml, hown, hts⟩
  have fl_194 := hts (.fieldLink RX7 194 "BucketGiftModel" "isWrong" "Z") (List.mem_of_getElem? (i := 1) rfl)
  have fl_182 := hts (.fieldLink RX7 182 "BucketGiftModel" "from" "I") (List.mem_of_getElem? (i := 2) rfl)
  have hg : entryFrame m args 1 = entryFrame m ([.ref (a_m 0)] : List Value).toArray 1 := by rw [hav]
  rw [hg, lg_entry_eq]
  have hl := lv_entry ([.ref (a_m 0)]) (n := 1) (Nat.le_of_ble_eq_true rfl)
  generalize (lg_sl ([.ref (a_m 0)]) ++ List.replicate (1 - (lg_sl ([.ref (a_m 0)])).length) Slot.unset).toArray = ls at hl ⊢
  have hl : lv_has ls 1 [(0, .ref (a_m 0))] := hl
  clear hg
  unfold fX7_isNumberHere at hd
  refine lv_aload_n hx hb dX7_isNumberHere_0 rfl (lv_at hl 0 rfl) ?_
  refine rx_get hx hb hts fiX7_isNumberHere_X7 hown hK hP 0 rfl rfl 13 (Nat.le_of_ble_eq_true rfl) fl_194 rfl rfl dX7_isNumberHere_1 ?_
  refine rx_if_ne hx hb 25 dX7_isNumberHere_4 rfl hd (fun hd => ?_) (fun hd => ?_)
  · refine lv_iconst (v := 0) hx hb dX7_isNumberHere_25 ki_0 ?_
    exact rx_retRz hx hb hr hlocks hd dX7_isNumberHere_26
  refine lv_aload_n hx hb dX7_isNumberHere_7 rfl (lv_at hl 0 rfl) ?_
  refine lv_aload_n hx hb dX7_isNumberHere_8 rfl (lv_at hl 0 rfl) ?_
  refine rx_get hx hb hts fiX7_isNumberHere_X7 hown hK hP 0 rfl rfl 10 (Nat.le_of_ble_eq_true rfl) fl_182 rfl rfl dX7_isNumberHere_9 ?_
  refine rx_roi hd (fun v hv => W.runV (As := [.int (mgFrom s_m)]) (rest := []) hcf (c_X7_byteAt l dC dI cI cJ cQ fu a_m  s_m (mgFrom s_m) v hv) (cwV 1 hts gX7_isNumberHere_X7_byteAt rfl rfl rfl cd_X7_byteAt ⟨(Nat.le_of_ble_eq_true rfl), (Nat.le_of_ble_eq_true rfl)⟩) (cq_R_V1 (q0 := 0) (ci := 6) hK hP rfl rfl) rfl rfl hl.1 rfl (lv_room (Nat.le_of_ble_eq_true rfl)) dX7_isNumberHere_12 ⟨Nat.le_refl _, Nat.le_refl _⟩) (fun u12 hd => ?_)
  refine rx_roi hd (fun v hv => W.runS (As := [.int u12]) (rest := []) hcf (c_X7_isDigit l dC dI cI cJ cQ fu    u12 v hv) (va_cwS 1 hts gX7_isNumberHere_X7_isDigit rfl rfl rfl cd_X7_isDigit ⟨(Nat.le_of_ble_eq_true rfl), (Nat.le_of_ble_eq_true rfl)⟩) (cq_R_S hK hP [] rfl) rfl rfl hl.1 rfl (lv_room (Nat.le_of_ble_eq_true rfl)) dX7_isNumberHere_15 ⟨Nat.le_refl _, Nat.le_refl _⟩) (fun u15 hd => ?_)
  refine rx_if_eq hx hb 25 dX7_isNumberHere_18 rfl hd (fun hd => ?_) (fun hd => ?_)
  · refine lv_iconst (v := 0) hx hb dX7_isNumberHere_25 ki_0 ?_
    exact rx_retRz hx hb hr hlocks hd dX7_isNumberHere_26
  refine lv_iconst (v := 1) hx hb dX7_isNumberHere_21 ki_1 ?_
  refine lv_goto (tgt := 26) hx hb dX7_isNumberHere_22 rfl ?_
  exact rx_retRz hx hb hr hlocks hd dX7_isNumberHere_26
theorem fiX7_personItem_X7 : ∀ w ∈ wsX70, w ∈ wsX7_personItem := mem_r _ [57, 58, 59, 60, 61, 62, 63, 64, 65, 66, 67, 68, 69, 70, 71, 72, 73, 74] rfl
set_option maxHeartbeats 8000000 in
set_option maxRecDepth 100000 in
theorem c_X7_personItem (l : Launch) (dC : Nat → ClassId) (dI : Nat → Nat → Nat) (cI cJ cQ : ClassId) (fu : Nat) (a_m : Nat → Nat) (sz : Nat) (s_m : MS) (x1 : Int32) (r : MS) (hd : fX7_personItem fu  s_m x1 = some r) : mUv l yX7_personItem wsX7_personItem (gRm 5 113) [.ref (a_m 0), .int x1] (dC, dI) vwCl (gty cI cJ cQ) (wM cI cJ a_m s_m) sz (fun u : MS => (wM cI cJ a_m u)) r := by
  refine Met.ofW (cc := cX7_personItem) (maxL := 4) (ret := none) (by decide) rfl ?_
  intro p e s m args below meth c s₁ B hml hv
  obtain ⟨hav, hsz, hP, hK, hD0⟩ := hv
  subst hsz
  have hD := hD0.self (sz := s.heap.size)
  generalize hAe : va_A (wM cI cJ a_m s_m) s.heap.size = A at hD ⊢
  have hA : ∀ q : Nat, s.heap.size ≤ q → A q := fun q h => by rw [← hAe]; exact Or.inr h
  have hS : va_S A s.heap s.heap [] := va_S.rf
  have hx := B.exec
  have hb := B.bytes
  have hr := B.returns
  have hts := atoms_spec (ws := wsX7_personItem) B.pre
  have hown : s.vm.findClass RX7 = some m.cls := findClass_of_methodNamed B.named
  have hlocks := B.notSynchronized
  have hcf : CallFix p m c cX7_personItem 4 s args wsX7_personItem RX7 := ⟨hx, hb, hml, hown, hts⟩
  have fl_7 := hts (.fieldLink RX7 7 "BucketGiftModel" "s" "[I") (List.mem_of_getElem? (i := 1) rfl)
  have fl_194 := hts (.fieldLink RX7 194 "BucketGiftModel" "isWrong" "Z") (List.mem_of_getElem? (i := 2) rfl)
  have fl_205 := hts (.fieldLink RX7 205 "BucketGiftModel" "value" "I") (List.mem_of_getElem? (i := 4) rfl)
  have kc_228 := hts (.constantLong RX7 228 (4388)) (List.mem_of_getElem? (i := 3) rfl)
  have kc_238 := hts (.constantLong RX7 238 (643248)) (List.mem_of_getElem? (i := 5) rfl)
  have hg : entryFrame m args 4 = entryFrame m ([.ref (a_m 0), .int x1] : List Value).toArray 4 := by rw [hav]
  rw [hg, lg_entry_eq]
  have hl := lv_entry ([.ref (a_m 0), .int x1]) (n := 4) (Nat.le_of_ble_eq_true rfl)
  generalize (lg_sl ([.ref (a_m 0), .int x1]) ++ List.replicate (4 - (lg_sl ([.ref (a_m 0), .int x1])).length) Slot.unset).toArray = ls at hl ⊢
  have hl : lv_has ls 4 [(0, .ref (a_m 0)), (1, .int x1)] := hl
  clear hg
  unfold fX7_personItem at hd
  have b150 : ∀ (s_m : MS) (y0 : Int32) (y1 : Int32), fX7_personItem_b150 fu    s_m y0 y1 = some r → bk_U p l e (headSpec wsX7_personItem (gRm 5 113)).room s m args below meth c (qUv below args s (dC, dI) vwCl (gty cI cJ cQ) A (fun u : MS => (wM cI cJ a_m u)) r) (dC, dI) vwCl A 4 (wM cI cJ a_m s_m) 150 [] [.int y0, .int y1, .ref (a_m 1)] := by
    intro s_m y0 y1 hd
    intro H locs ls hP hD hS hl
    unfold fX7_personItem_b150 at hd
    refine rx_iast (wM cI cJ a_m (muS s_m (Int32.toNatClampNeg y1) y0)) hx hb hK hP hD hS 1 0 rfl rfl hd (wM_uS ..) dX7_personItem_150 (fun hd H locs hP hD hS => ?_)
    exact rx_retUv (u := (muS s_m (Int32.toNatClampNeg y1) y0)) (w1 := (fun u : MS => (wM cI cJ a_m u))) hx hb hr hlocks hd hK hP hD hS dX7_personItem_151
  have b104 : ∀ (s_m : MS) (x2 : Int32), fX7_personItem_b104 fu    s_m x2 = some r → bk_U p l e (headSpec wsX7_personItem (gRm 5 113)).room s m args below meth c (qUv below args s (dC, dI) vwCl (gty cI cJ cQ) A (fun u : MS => (wM cI cJ a_m u)) r) (dC, dI) vwCl A 4 (wM cI cJ a_m s_m) 104 [(0, .ref (a_m 0)), (2, .int x2)] [] := by
    intro s_m x2 hd
    intro H locs ls hP hD hS hl
    unfold fX7_personItem_b104 at hd
    refine lv_aload_n hx hb dX7_personItem_104 rfl (lv_at hl 0 rfl) ?_
    refine rx_rol hd (fun v hv => W.runV (As := []) (rest := []) hcf (c_X7_word l dC dI cI cJ cQ fu a_m  s_m  v hv) (cwV 0 hts gX7_personItem_X7_word rfl rfl rfl cd_X7_word ⟨(Nat.le_of_ble_eq_true rfl), (Nat.le_of_ble_eq_true rfl)⟩) (cq_R_V1 (q0 := 0) (ci := 6) hK hP rfl rfl) rfl rfl hl.1 rfl (lv_room (Nat.le_of_ble_eq_true rfl)) dX7_personItem_105 ⟨Nat.le_refl _, Nat.le_refl _⟩) (fun u105 hd => ?_)
    refine lv_ldc2 hx hb hown kc_238 dX7_personItem_108 ?_
    refine W.lcmp hx hb dX7_personItem_111 ?_
    refine rx_if_ne hx hb 151 dX7_personItem_112 rfl hd (fun hd => ?_) (fun hd => ?_)
    · exact rx_retUv (u := s_m) (w1 := (fun u : MS => (wM cI cJ a_m u))) hx hb hr hlocks hd hK hP hD hS dX7_personItem_151
    refine lv_aload_n hx hb dX7_personItem_115 rfl (lv_at hl 0 rfl) ?_
    refine lv_iconst (v := 1) hx hb dX7_personItem_116 ki_1 ?_
    refine rx_upv1 hd hD hS hA (fun v hv => va_runV (As := [.int (1 : Int32)]) (rest := []) hcf (c_X7_must l dC dI cI cJ cQ fu a_m _  s_m (1 : Int32) v hv) (cwV 1 hts gX7_personItem_X7_must rfl rfl rfl cd_X7_must ⟨(Nat.le_of_ble_eq_true rfl), (Nat.le_of_ble_eq_true rfl)⟩) (cq_U_V1 (q0 := 0) (ci := 6) hK hP hD rfl rfl) rfl rfl hl.1 rfl (lv_room (Nat.le_of_ble_eq_true rfl)) dX7_personItem_117 ⟨Nat.le_refl _, Nat.le_refl _⟩) (fun u117 hd H locs hP hD hS => ?_)
    refine lv_aload_n hx hb dX7_personItem_120 rfl (lv_at hl 0 rfl) ?_
    refine lv_iconst (v := 0) hx hb dX7_personItem_121 ki_0 ?_
    refine lv_iload_n hx hb dX7_personItem_122 rfl (lv_at hl 1 rfl) ?_
    refine rx_upv1 hd hD hS hA (fun v hv => va_runV (As := [.int (0 : Int32), .int x2]) (rest := []) hcf (c_X7_number l dC dI cI cJ cQ fu a_m _  u117 (0 : Int32) x2 v hv) (cwV 2 hts gX7_personItem_X7_number rfl rfl rfl cd_X7_number ⟨(Nat.le_of_ble_eq_true rfl), (Nat.le_of_ble_eq_true rfl)⟩) (cq_U_V1 (q0 := 0) (ci := 6) hK hP hD rfl rfl) rfl rfl hl.1 rfl (lv_room (Nat.le_of_ble_eq_true rfl)) dX7_personItem_123 ⟨Nat.le_refl _, Nat.le_refl _⟩) (fun u123 hd H locs hP hD hS => ?_)
    refine lv_aload_n hx hb dX7_personItem_126 rfl (lv_at hl 0 rfl) ?_
    refine rx_get hx hb hts fiX7_personItem_X7 hown hK hP 0 rfl rfl 0 (Nat.le_of_ble_eq_true rfl) fl_7 rfl rfl dX7_personItem_127 ?_
    refine lv_iload_n hx hb dX7_personItem_130 rfl (lv_at hl 1 rfl) ?_
    refine lv_iconst (v := 2) hx hb dX7_personItem_131 ki_2 ?_
    refine rx_roi hd (fun v hv => W.runS (As := [.int x2, .int (2 : Int32)]) (rest := [.ref (a_m 1)]) hcf (c_X7_spot l dC dI cI cJ cQ fu    x2 (2 : Int32) v hv) (va_cwS 2 hts gX7_personItem_X7_spot rfl rfl rfl cd_X7_spot ⟨(Nat.le_of_ble_eq_true rfl), (Nat.le_of_ble_eq_true rfl)⟩) (cq_R_S hK hP [] rfl) rfl rfl hl.1 rfl (lv_room (Nat.le_of_ble_eq_true rfl)) dX7_personItem_132 ⟨Nat.le_refl _, Nat.le_refl _⟩) (fun u132 hd => ?_)
    refine lv_aload_n hx hb dX7_personItem_135 rfl (lv_at hl 0 rfl) ?_
    refine rx_get hx hb hts fiX7_personItem_X7 hown hK hP 0 rfl rfl 13 (Nat.le_of_ble_eq_true rfl) fl_194 rfl rfl dX7_personItem_136 ?_
    refine rx_if_eq hx hb 146 dX7_personItem_139 rfl hd (fun hd => ?_) (fun hd => ?_)
    · refine lv_aload_n hx hb dX7_personItem_146 rfl (lv_at hl 0 rfl) ?_
      refine rx_get hx hb hts fiX7_personItem_X7 hown hK hP 0 rfl rfl 12 (Nat.le_of_ble_eq_true rfl) fl_205 rfl rfl dX7_personItem_147 ?_
      exact b150   u123 (mgValue u123) u132 hd _ _ _ hP hD hS (lv_sub hl [] rfl)
    refine lv_iload_n hx hb dX7_personItem_142 rfl (lv_at hl 1 rfl) ?_
    refine lv_goto (tgt := 150) hx hb dX7_personItem_143 rfl ?_
    exact b150   u123 x2 u132 hd _ _ _ hP hD hS (lv_sub hl [] rfl)
  have b87 : ∀ (x2 : Int32), ∀ (K52 : MS → Int32 → Option (MS)) (k52 : ∀ (s_m : MS) (x3 : Int32), K52 s_m x3 = some r → bk_U p l e (headSpec wsX7_personItem (gRm 5 113)).room s m args below meth c (qUv below args s (dC, dI) vwCl (gty cI cJ cQ) A (fun u : MS => (wM cI cJ a_m u)) r) (dC, dI) vwCl A 4 (wM cI cJ a_m s_m) 52 [(0, .ref (a_m 0)), (2, .int x2), (3, .int x3)] []), ∀ (s_m : MS) (x3 : Int32) (y0 : Int32) (y1 : Int32) (y2 : Int32), fX7_personItem_b87 fu  K52 x2 s_m x3 y0 y1 y2 = some r → bk_U p l e (headSpec wsX7_personItem (gRm 5 113)).room s m args below meth c (qUv below args s (dC, dI) vwCl (gty cI cJ cQ) A (fun u : MS => (wM cI cJ a_m u)) r) (dC, dI) vwCl A 4 (wM cI cJ a_m s_m) 87 [(0, .ref (a_m 0)), (2, .int x2), (3, .int x3)] [.int y0, .int y1, .int y2, .ref (a_m 1)] := by
    intro x2
    intro K52 k52
    intro s_m x3 y0 y1 y2 hd
    intro H locs ls hP hD hS hl
    unfold fX7_personItem_b87 at hd
    refine lv_ior hx hb dX7_personItem_87 ?_
    refine rx_iast (wM cI cJ a_m (muS s_m (Int32.toNatClampNeg y2) (y1 ||| y0))) hx hb hK hP hD hS 1 0 rfl rfl hd (wM_uS ..) dX7_personItem_88 (fun hd H locs hP hD hS => ?_)
    refine rx_iinc (lv' := fun z => (3, .int z) :: [(0, .ref (a_m 0)), (2, .int x2)]) hx hb (j := 2) dX7_personItem_89 hl rfl ki_1 hd (Nat.le_of_ble_eq_true rfl) (fun _ => rfl) (fun x3_89 hd ls hl => ?_)
    refine lv_iload_n hx hb dX7_personItem_92 rfl (lv_at hl 0 rfl) ?_
    refine lv_iconst (v := 4) hx hb dX7_personItem_93 ki_4 ?_
    refine rx_icmp_ge hx hb 104 dX7_personItem_94 rfl hd (fun hd => ?_) (fun hd => ?_)
    · exact b104   (muS s_m (Int32.toNatClampNeg y2) (y1 ||| y0)) x2 hd _ _ _ hP hD hS (lv_sub hl [1, 2] rfl)
    refine lv_aload_n hx hb dX7_personItem_97 rfl (lv_at hl 1 rfl) ?_
    refine rx_roi hd (fun v hv => W.runV (As := []) (rest := []) hcf (c_X7_isNumberHere l dC dI cI cJ cQ fu a_m  (muS s_m (Int32.toNatClampNeg y2) (y1 ||| y0))  v hv) (cwV 0 hts gX7_personItem_X7_isNumberHere rfl rfl rfl cd_X7_isNumberHere ⟨(Nat.le_of_ble_eq_true rfl), (Nat.le_of_ble_eq_true rfl)⟩) (cq_R_V1 (q0 := 0) (ci := 6) hK hP rfl rfl) rfl rfl hl.1 rfl (lv_room (Nat.le_of_ble_eq_true rfl)) dX7_personItem_98 ⟨Nat.le_refl _, Nat.le_refl _⟩) (fun u98 hd => ?_)
    refine rx_if_ne hx hb 52 dX7_personItem_101 rfl hd (fun hd => ?_) (fun hd => ?_)
    · exact k52 (muS s_m (Int32.toNatClampNeg y2) (y1 ||| y0)) x3_89 hd _ _ _ hP hD hS (lv_sub hl [1, 2, 0] rfl)
    exact b104   (muS s_m (Int32.toNatClampNeg y2) (y1 ||| y0)) x2 hd _ _ _ hP hD hS (lv_sub hl [1, 2] rfl)
  have b52 : ∀ (x2 : Int32) (s_m : MS) (x3 : Int32), fX7_personItem_b52 fu    x2 s_m x3 = some r → bk_U p l e (headSpec wsX7_personItem (gRm 5 113)).room s m args below meth c (qUv below args s (dC, dI) vwCl (gty cI cJ cQ) A (fun u : MS => (wM cI cJ a_m u)) r) (dC, dI) vwCl A 4 (wM cI cJ a_m s_m) 52 [(0, .ref (a_m 0)), (2, .int x2), (3, .int x3)] [] := by
    intro x2
    have L : ∀ (n : Nat) (s_m : MS) (x3 : Int32), g_lp (fun _ _ => none) (fX7_personItem_b52B fu    x2) n s_m x3 = some r → bk_U p l e (headSpec wsX7_personItem (gRm 5 113)).room s m args below meth c (qUv below args s (dC, dI) vwCl (gty cI cJ cQ) A (fun u : MS => (wM cI cJ a_m u)) r) (dC, dI) vwCl A 4 (wM cI cJ a_m s_m) 52 [(0, .ref (a_m 0)), (2, .int x2), (3, .int x3)] [] := by
      intro n
      induction n with
      | zero => intro s_m x3 hd; exact absurd hd (by intro h; cases h)
      | succ n k52 =>
        intro s_m x3 hd
        intro H locs ls hP hD hS hl
        have hd : fX7_personItem_b52B fu    x2 (g_lp (fun _ _ => none) (fX7_personItem_b52B fu    x2) n) s_m x3 = some r := hd
        unfold fX7_personItem_b52B at hd
        refine lv_aload_n hx hb dX7_personItem_52 rfl (lv_at hl 0 rfl) ?_
        refine lv_iconst (v := 0) hx hb dX7_personItem_53 ki_0 ?_
        refine lv_bipush (v := 7) hx hb dX7_personItem_54 kb_7 ?_
        refine rx_upv1 hd hD hS hA (fun v hv => va_runV (As := [.int (0 : Int32), .int (7 : Int32)]) (rest := []) hcf (c_X7_number l dC dI cI cJ cQ fu a_m _  s_m (0 : Int32) (7 : Int32) v hv) (cwV 2 hts gX7_personItem_X7_number rfl rfl rfl cd_X7_number ⟨(Nat.le_of_ble_eq_true rfl), (Nat.le_of_ble_eq_true rfl)⟩) (cq_U_V1 (q0 := 0) (ci := 6) hK hP hD rfl rfl) rfl rfl hl.1 rfl (lv_room (Nat.le_of_ble_eq_true rfl)) dX7_personItem_56 ⟨Nat.le_refl _, Nat.le_refl _⟩) (fun u56 hd H locs hP hD hS => ?_)
        refine lv_aload_n hx hb dX7_personItem_59 rfl (lv_at hl 0 rfl) ?_
        refine rx_get hx hb hts fiX7_personItem_X7 hown hK hP 0 rfl rfl 0 (Nat.le_of_ble_eq_true rfl) fl_7 rfl rfl dX7_personItem_60 ?_
        refine lv_iload_n hx hb dX7_personItem_63 rfl (lv_at hl 1 rfl) ?_
        refine lv_iconst (v := 1) hx hb dX7_personItem_64 ki_1 ?_
        refine rx_roi hd (fun v hv => W.runS (As := [.int x2, .int (1 : Int32)]) (rest := [.ref (a_m 1)]) hcf (c_X7_spot l dC dI cI cJ cQ fu    x2 (1 : Int32) v hv) (va_cwS 2 hts gX7_personItem_X7_spot rfl rfl rfl cd_X7_spot ⟨(Nat.le_of_ble_eq_true rfl), (Nat.le_of_ble_eq_true rfl)⟩) (cq_R_S hK hP [] rfl) rfl rfl hl.1 rfl (lv_room (Nat.le_of_ble_eq_true rfl)) dX7_personItem_65 ⟨Nat.le_refl _, Nat.le_refl _⟩) (fun u65 hd => ?_)
        refine lv_dup2_11 hx hb dX7_personItem_68 rfl rfl ?_
        refine rx_iald hx hb hK hP 1 0 rfl rfl hd dX7_personItem_69 (fun v69 hd => ?_)
        refine lv_aload_n hx hb dX7_personItem_70 rfl (lv_at hl 0 rfl) ?_
        refine rx_get hx hb hts fiX7_personItem_X7 hown hK hP 0 rfl rfl 13 (Nat.le_of_ble_eq_true rfl) fl_194 rfl rfl dX7_personItem_71 ?_
        refine rx_if_eq hx hb 81 dX7_personItem_74 rfl hd (fun hd => ?_) (fun hd => ?_)
        · refine lv_iconst (v := 1) hx hb dX7_personItem_81 ki_1 ?_
          refine lv_aload_n hx hb dX7_personItem_82 rfl (lv_at hl 0 rfl) ?_
          refine rx_get hx hb hts fiX7_personItem_X7 hown hK hP 0 rfl rfl 12 (Nat.le_of_ble_eq_true rfl) fl_205 rfl rfl dX7_personItem_83 ?_
          refine lv_ishl hx hb dX7_personItem_86 ?_
          exact b87 x2 _ k52 u56 x3 ((1 : Int32) <<< ((mgValue u56) &&& (31 : Int32))) v69 u65 hd _ _ _ hP hD hS (lv_sub hl [0, 1, 2] rfl)
        refine lv_iconst (v := 0) hx hb dX7_personItem_77 ki_0 ?_
        refine lv_goto (tgt := 87) hx hb dX7_personItem_78 rfl ?_
        exact b87 x2 _ k52 u56 x3 (0 : Int32) v69 u65 hd _ _ _ hP hD hS (lv_sub hl [0, 1, 2] rfl)
    exact fun s_m x3 => L fu s_m x3
  have b17 : ∀ (s_m : MS) (x1 : Int32) (y0 : Int32), fX7_personItem_b17 fu    s_m x1 y0 = some r → bk_U p l e (headSpec wsX7_personItem (gRm 5 113)).room s m args below meth c (qUv below args s (dC, dI) vwCl (gty cI cJ cQ) A (fun u : MS => (wM cI cJ a_m u)) r) (dC, dI) vwCl A 4 (wM cI cJ a_m s_m) 17 [(0, .ref (a_m 0)), (1, .int x1)] [.int y0, .ref (a_m 0)] := by
    intro s_m x1 y0 hd
    intro H locs ls hP hD hS hl
    unfold fX7_personItem_b17 at hd
    refine rx_upv1 hd hD hS hA (fun v hv => va_runV (As := [.int y0]) (rest := []) hcf (c_X7_must l dC dI cI cJ cQ fu a_m _  s_m y0 v hv) (cwV 1 hts gX7_personItem_X7_must rfl rfl rfl cd_X7_must ⟨(Nat.le_of_ble_eq_true rfl), (Nat.le_of_ble_eq_true rfl)⟩) (cq_U_V1 (q0 := 0) (ci := 6) hK hP hD rfl rfl) rfl rfl hl.1 rfl (lv_room (Nat.le_of_ble_eq_true rfl)) dX7_personItem_17 ⟨Nat.le_refl _, Nat.le_refl _⟩) (fun u17 hd H locs hP hD hS => ?_)
    refine lv_aload_n hx hb dX7_personItem_20 rfl (lv_at hl 0 rfl) ?_
    refine rx_get hx hb hts fiX7_personItem_X7 hown hK hP 0 rfl rfl 13 (Nat.le_of_ble_eq_true rfl) fl_194 rfl rfl dX7_personItem_21 ?_
    refine rx_if_eq hx hb 28 dX7_personItem_24 rfl hd (fun hd => ?_) (fun hd => ?_)
    · refine lv_aload_n hx hb dX7_personItem_28 rfl (lv_at hl 0 rfl) ?_
      refine lv_iload_n hx hb dX7_personItem_29 rfl (lv_at hl 1 rfl) ?_
      refine rx_upi1 hd hD hS hA (fun v hv => va_runV (As := [.int x1]) (rest := []) hcf (c_X7_adds l dC dI cI cJ cQ fu a_m _  u17 x1 v hv) (cwV 1 hts gX7_personItem_X7_adds rfl rfl rfl cd_X7_adds ⟨(Nat.le_of_ble_eq_true rfl), (Nat.le_of_ble_eq_true rfl)⟩) (cq_U_V1 (q0 := 0) (ci := 6) hK hP hD rfl rfl) rfl rfl hl.1 rfl (lv_room (Nat.le_of_ble_eq_true rfl)) dX7_personItem_30 ⟨Nat.le_refl _, Nat.le_refl _⟩) (fun u30 hd H locs hP hD hS => ?_)
      refine lv_istore_n (lv' := [(2, .int u30.1), (0, .ref (a_m 0)), (1, .int x1)]) hx hb dX7_personItem_33 rfl hl (Nat.le_of_ble_eq_true rfl) rfl (fun ls hl => ?_)
      refine lv_aload_n hx hb dX7_personItem_34 rfl (lv_at hl 1 rfl) ?_
      refine rx_rol hd (fun v hv => W.runV (As := []) (rest := []) hcf (c_X7_word l dC dI cI cJ cQ fu a_m  u30.2  v hv) (cwV 0 hts gX7_personItem_X7_word rfl rfl rfl cd_X7_word ⟨(Nat.le_of_ble_eq_true rfl), (Nat.le_of_ble_eq_true rfl)⟩) (cq_R_V1 (q0 := 0) (ci := 6) hK hP rfl rfl) rfl rfl hl.1 rfl (lv_room (Nat.le_of_ble_eq_true rfl)) dX7_personItem_35 ⟨Nat.le_refl _, Nat.le_refl _⟩) (fun u35 hd => ?_)
      refine lv_ldc2 hx hb hown kc_228 dX7_personItem_38 ?_
      refine W.lcmp hx hb dX7_personItem_41 ?_
      refine rx_if_ne hx hb 104 dX7_personItem_42 rfl hd (fun hd => ?_) (fun hd => ?_)
      · exact b104   u30.2 u30.1 hd _ _ _ hP hD hS (lv_sub hl [1, 0] rfl)
      refine lv_aload_n hx hb dX7_personItem_45 rfl (lv_at hl 1 rfl) ?_
      refine lv_iconst (v := 1) hx hb dX7_personItem_46 ki_1 ?_
      refine rx_upv1 hd hD hS hA (fun v hv => va_runV (As := [.int (1 : Int32)]) (rest := []) hcf (c_X7_must l dC dI cI cJ cQ fu a_m _  u30.2 (1 : Int32) v hv) (cwV 1 hts gX7_personItem_X7_must rfl rfl rfl cd_X7_must ⟨(Nat.le_of_ble_eq_true rfl), (Nat.le_of_ble_eq_true rfl)⟩) (cq_U_V1 (q0 := 0) (ci := 6) hK hP hD rfl rfl) rfl rfl hl.1 rfl (lv_room (Nat.le_of_ble_eq_true rfl)) dX7_personItem_47 ⟨Nat.le_refl _, Nat.le_refl _⟩) (fun u47 hd H locs hP hD hS => ?_)
      refine lv_iconst (v := 0) hx hb dX7_personItem_50 ki_0 ?_
      refine lv_istore_n (lv' := [(3, .int (0 : Int32)), (2, .int u30.1), (0, .ref (a_m 0)), (1, .int x1)]) hx hb dX7_personItem_51 rfl hl (Nat.le_of_ble_eq_true rfl) rfl (fun ls hl => ?_)
      exact b52   u30.1 u47 (0 : Int32) hd _ _ _ hP hD hS (lv_sub hl [2, 1, 0] rfl)
    exact rx_retUv (u := u17) (w1 := (fun u : MS => (wM cI cJ a_m u))) hx hb hr hlocks hd hK hP hD hS dX7_personItem_27
  refine lv_aload_n hx hb dX7_personItem_0 rfl (lv_at hl 0 rfl) ?_
  refine lv_aload_n hx hb dX7_personItem_1 rfl (lv_at hl 0 rfl) ?_
  refine rx_get hx hb hts fiX7_personItem_X7 hown hK hP 0 rfl rfl 0 (Nat.le_of_ble_eq_true rfl) fl_7 rfl rfl dX7_personItem_2 ?_
  refine lv_iconst (v := 0) hx hb dX7_personItem_5 ki_0 ?_
  refine rx_iald hx hb hK hP 1 0 rfl rfl hd dX7_personItem_6 (fun v6 hd => ?_)
  refine lv_bipush (v := 8) hx hb dX7_personItem_7 kb_8 ?_
  refine rx_icmp_ge hx hb 16 dX7_personItem_9 rfl hd (fun hd => ?_) (fun hd => ?_)
  · refine lv_iconst (v := 0) hx hb dX7_personItem_16 ki_0 ?_
    exact b17   s_m x1 (0 : Int32) hd _ _ _ hP hD hS (lv_sub hl [0, 1] rfl)
  refine lv_iconst (v := 1) hx hb dX7_personItem_12 ki_1 ?_
  refine lv_goto (tgt := 17) hx hb dX7_personItem_13 rfl ?_
  exact b17   s_m x1 (1 : Int32) hd _ _ _ hP hD hS (lv_sub hl [0, 1] rfl)
theorem fiX7_partItem_X7 : ∀ w ∈ wsX70, w ∈ wsX7_partItem := mem_r _ [44, 45, 46, 47, 48, 49, 50, 51, 52, 53, 54, 55, 56, 57, 58, 59, 60, 61] rfl
set_option maxHeartbeats 8000000 in
set_option maxRecDepth 100000 in
theorem c_X7_partItem (l : Launch) (dC : Nat → ClassId) (dI : Nat → Nat → Nat) (cI cJ cQ : ClassId) (fu : Nat) (a_m : Nat → Nat) (sz : Nat) (s_m : MS) (x1 : Int64) (x3 : Int32) (x4 : Int32) (r : MS) (hd : fX7_partItem fu  s_m x1 x3 x4 = some r) : mUv l yX7_partItem wsX7_partItem (gRm 5 113) [.ref (a_m 0), .long x1, .int x3, .int x4] (dC, dI) vwCl (gty cI cJ cQ) (wM cI cJ a_m s_m) sz (fun u : MS => (wM cI cJ a_m u)) r := by
  refine Met.ofW (cc := cX7_partItem) (maxL := 5) (ret := none) (by decide) rfl ?_
  intro p e s m args below meth c s₁ B hml hv
  obtain ⟨hav, hsz, hP, hK, hD0⟩ := hv
  subst hsz
  have hD := hD0.self (sz := s.heap.size)
  generalize hAe : va_A (wM cI cJ a_m s_m) s.heap.size = A at hD ⊢
  have hA : ∀ q : Nat, s.heap.size ≤ q → A q := fun q h => by rw [← hAe]; exact Or.inr h
  have hS : va_S A s.heap s.heap [] := va_S.rf
  have hx := B.exec
  have hb := B.bytes
  have hr := B.returns
  have hts := atoms_spec (ws := wsX7_partItem) B.pre
  have hown : s.vm.findClass RX7 = some m.cls := findClass_of_methodNamed B.named
  have hlocks := B.notSynchronized
  have hcf : CallFix p m c cX7_partItem 5 s args wsX7_partItem RX7 := ⟨hx, hb, hml, hown, hts⟩
  have fl_7 := hts (.fieldLink RX7 7 "BucketGiftModel" "s" "[I") (List.mem_of_getElem? (i := 1) rfl)
  have fl_194 := hts (.fieldLink RX7 194 "BucketGiftModel" "isWrong" "Z") (List.mem_of_getElem? (i := 2) rfl)
  have fl_205 := hts (.fieldLink RX7 205 "BucketGiftModel" "value" "I") (List.mem_of_getElem? (i := 3) rfl)
  have hg : entryFrame m args 5 = entryFrame m ([.ref (a_m 0), .long x1, .int x3, .int x4] : List Value).toArray 5 := by rw [hav]
  rw [hg, lg_entry_eq]
  have hl := lv_entry ([.ref (a_m 0), .long x1, .int x3, .int x4]) (n := 5) (Nat.le_of_ble_eq_true rfl)
  generalize (lg_sl ([.ref (a_m 0), .long x1, .int x3, .int x4]) ++ List.replicate (5 - (lg_sl ([.ref (a_m 0), .long x1, .int x3, .int x4])).length) Slot.unset).toArray = ls at hl ⊢
  have hl : lv_has ls 5 [(0, .ref (a_m 0)), (1, .long x1), (3, .int x3), (4, .int x4)] := hl
  clear hg
  unfold fX7_partItem at hd
  have b46 : ∀ (s_m : MS) (y0 : Int32) (y1 : Int32), fX7_partItem_b46 fu    s_m y0 y1 = some r → bk_U p l e (headSpec wsX7_partItem (gRm 5 113)).room s m args below meth c (qUv below args s (dC, dI) vwCl (gty cI cJ cQ) A (fun u : MS => (wM cI cJ a_m u)) r) (dC, dI) vwCl A 5 (wM cI cJ a_m s_m) 46 [] [.int y0, .int y1, .ref (a_m 1)] := by
    intro s_m y0 y1 hd
    intro H locs ls hP hD hS hl
    unfold fX7_partItem_b46 at hd
    refine rx_iast (wM cI cJ a_m (muS s_m (Int32.toNatClampNeg y1) y0)) hx hb hK hP hD hS 1 0 rfl rfl hd (wM_uS ..) dX7_partItem_46 (fun hd H locs hP hD hS => ?_)
    exact rx_retUv (u := (muS s_m (Int32.toNatClampNeg y1) y0)) (w1 := (fun u : MS => (wM cI cJ a_m u))) hx hb hr hlocks hd hK hP hD hS dX7_partItem_47
  refine lv_aload_n hx hb dX7_partItem_0 rfl (lv_at hl 0 rfl) ?_
  refine rx_rol hd (fun v hv => W.runV (As := []) (rest := []) hcf (c_X7_word l dC dI cI cJ cQ fu a_m  s_m  v hv) (cwV 0 hts gX7_partItem_X7_word rfl rfl rfl cd_X7_word ⟨(Nat.le_of_ble_eq_true rfl), (Nat.le_of_ble_eq_true rfl)⟩) (cq_R_V1 (q0 := 0) (ci := 6) hK hP rfl rfl) rfl rfl hl.1 rfl (lv_room (Nat.le_of_ble_eq_true rfl)) dX7_partItem_1 ⟨Nat.le_refl _, Nat.le_refl _⟩) (fun u1 hd => ?_)
  refine lv_lload_n hx hb dX7_partItem_4 rfl (lv_at hl 1 rfl) ?_
  refine W.lcmp hx hb dX7_partItem_5 ?_
  refine rx_if_ne hx hb 47 dX7_partItem_6 rfl hd (fun hd => ?_) (fun hd => ?_)
  · exact rx_retUv (u := s_m) (w1 := (fun u : MS => (wM cI cJ a_m u))) hx hb hr hlocks hd hK hP hD hS dX7_partItem_47
  refine lv_aload_n hx hb dX7_partItem_9 rfl (lv_at hl 0 rfl) ?_
  refine lv_iconst (v := 1) hx hb dX7_partItem_10 ki_1 ?_
  refine rx_upv1 hd hD hS hA (fun v hv => va_runV (As := [.int (1 : Int32)]) (rest := []) hcf (c_X7_must l dC dI cI cJ cQ fu a_m _  s_m (1 : Int32) v hv) (cwV 1 hts gX7_partItem_X7_must rfl rfl rfl cd_X7_must ⟨(Nat.le_of_ble_eq_true rfl), (Nat.le_of_ble_eq_true rfl)⟩) (cq_U_V1 (q0 := 0) (ci := 6) hK hP hD rfl rfl) rfl rfl hl.1 rfl (lv_room (Nat.le_of_ble_eq_true rfl)) dX7_partItem_11 ⟨Nat.le_refl _, Nat.le_refl _⟩) (fun u11 hd H locs hP hD hS => ?_)
  refine lv_aload_n hx hb dX7_partItem_14 rfl (lv_at hl 0 rfl) ?_
  refine lv_iconst (v := 0) hx hb dX7_partItem_15 ki_0 ?_
  refine lv_iload hx hb dX7_partItem_16 (lv_at hl 3 rfl) ?_
  refine rx_upv1 hd hD hS hA (fun v hv => va_runV (As := [.int (0 : Int32), .int x4]) (rest := []) hcf (c_X7_number l dC dI cI cJ cQ fu a_m _  u11 (0 : Int32) x4 v hv) (cwV 2 hts gX7_partItem_X7_number rfl rfl rfl cd_X7_number ⟨(Nat.le_of_ble_eq_true rfl), (Nat.le_of_ble_eq_true rfl)⟩) (cq_U_V1 (q0 := 0) (ci := 6) hK hP hD rfl rfl) rfl rfl hl.1 rfl (lv_room (Nat.le_of_ble_eq_true rfl)) dX7_partItem_18 ⟨Nat.le_refl _, Nat.le_refl _⟩) (fun u18 hd H locs hP hD hS => ?_)
  refine lv_aload_n hx hb dX7_partItem_21 rfl (lv_at hl 0 rfl) ?_
  refine rx_get hx hb hts fiX7_partItem_X7 hown hK hP 0 rfl rfl 0 (Nat.le_of_ble_eq_true rfl) fl_7 rfl rfl dX7_partItem_22 ?_
  refine lv_iload_n hx hb dX7_partItem_25 rfl (lv_at hl 2 rfl) ?_
  refine lv_aload_n hx hb dX7_partItem_26 rfl (lv_at hl 0 rfl) ?_
  refine rx_get hx hb hts fiX7_partItem_X7 hown hK hP 0 rfl rfl 13 (Nat.le_of_ble_eq_true rfl) fl_194 rfl rfl dX7_partItem_27 ?_
  refine rx_if_eq hx hb 42 dX7_partItem_30 rfl hd (fun hd => ?_) (fun hd => ?_)
  · refine lv_aload_n hx hb dX7_partItem_42 rfl (lv_at hl 0 rfl) ?_
    refine rx_get hx hb hts fiX7_partItem_X7 hown hK hP 0 rfl rfl 12 (Nat.le_of_ble_eq_true rfl) fl_205 rfl rfl dX7_partItem_43 ?_
    exact b46   u18 (mgValue u18) x3 hd _ _ _ hP hD hS (lv_sub hl [] rfl)
  refine lv_aload_n hx hb dX7_partItem_33 rfl (lv_at hl 0 rfl) ?_
  refine rx_get hx hb hts fiX7_partItem_X7 hown hK hP 0 rfl rfl 0 (Nat.le_of_ble_eq_true rfl) fl_7 rfl rfl dX7_partItem_34 ?_
  refine lv_iload_n hx hb dX7_partItem_37 rfl (lv_at hl 2 rfl) ?_
  refine rx_iald hx hb hK hP 1 0 rfl rfl hd dX7_partItem_38 (fun v38 hd => ?_)
  refine lv_goto (tgt := 46) hx hb dX7_partItem_39 rfl ?_
  exact b46   u18 v38 x3 hd _ _ _ hP hD hS (lv_sub hl [] rfl)
theorem fiX7_farmItem_X7 : ∀ w ∈ wsX70, w ∈ wsX7_farmItem := mem_r _ [54, 55, 56, 57, 58, 59, 60, 61, 62, 63, 64, 65, 66, 67, 68, 69, 70, 71] rfl
set_option maxHeartbeats 8000000 in
set_option maxRecDepth 100000 in
theorem c_X7_farmItem (l : Launch) (dC : Nat → ClassId) (dI : Nat → Nat → Nat) (cI cJ cQ : ClassId) (fu : Nat) (a_m : Nat → Nat) (sz : Nat) (s_m : MS)  (r : MS) (hd : fX7_farmItem fu  s_m  = some r) : mUv l yX7_farmItem wsX7_farmItem (gRm 6 137) [.ref (a_m 0)] (dC, dI) vwCl (gty cI cJ cQ) (wM cI cJ a_m s_m) sz (fun u : MS => (wM cI cJ a_m u)) r := by
  refine Met.ofW (cc := cX7_farmItem) (maxL := 2) (ret := none) (by decide) rfl ?_
  intro p e s m args below meth c s₁ B hml hv
  obtain ⟨hav, hsz, hP, hK, hD0⟩ := hv
  subst hsz
  have hD := hD0.self (sz := s.heap.size)
  generalize hAe : va_A (wM cI cJ a_m s_m) s.heap.size = A at hD ⊢
  have hA : ∀ q : Nat, s.heap.size ≤ q → A q := fun q h => by rw [← hAe]; exact Or.inr h
  have hS : va_S A s.heap s.heap [] := va_S.rf
  have hx := B.exec
  have hb := B.bytes
  have hr := B.returns
  have hts := atoms_spec (ws := wsX7_farmItem) B.pre
  have hown : s.vm.findClass RX7 = some m.cls := findClass_of_methodNamed B.named
  have hlocks := B.notSynchronized
  have hcf : CallFix p m c cX7_farmItem 2 s args wsX7_farmItem RX7 := ⟨hx, hb, hml, hown, hts⟩
  have fl_194 := hts (.fieldLink RX7 194 "BucketGiftModel" "isWrong" "Z") (List.mem_of_getElem? (i := 1) rfl)
  have fl_205 := hts (.fieldLink RX7 205 "BucketGiftModel" "value" "I") (List.mem_of_getElem? (i := 2) rfl)
  have fl_7 := hts (.fieldLink RX7 7 "BucketGiftModel" "s" "[I") (List.mem_of_getElem? (i := 6) rfl)
  have kc_240 := hts (.constantLong RX7 240 (464036)) (List.mem_of_getElem? (i := 3) rfl)
  have kc_246 := hts (.constantLong RX7 246 (8243)) (List.mem_of_getElem? (i := 4) rfl)
  have kc_248 := hts (.constantLong RX7 248 (20101267)) (List.mem_of_getElem? (i := 5) rfl)
  have hg : entryFrame m args 2 = entryFrame m ([.ref (a_m 0)] : List Value).toArray 2 := by rw [hav]
  rw [hg, lg_entry_eq]
  have hl := lv_entry ([.ref (a_m 0)]) (n := 2) (Nat.le_of_ble_eq_true rfl)
  generalize (lg_sl ([.ref (a_m 0)]) ++ List.replicate (2 - (lg_sl ([.ref (a_m 0)])).length) Slot.unset).toArray = ls at hl ⊢
  have hl : lv_has ls 2 [(0, .ref (a_m 0))] := hl
  clear hg
  unfold fX7_farmItem at hd
  have b26 : ∀ (s_m : MS) (y0 : Int32), fX7_farmItem_b26 fu    s_m y0 = some r → bk_U p l e (headSpec wsX7_farmItem (gRm 6 137)).room s m args below meth c (qUv below args s (dC, dI) vwCl (gty cI cJ cQ) A (fun u : MS => (wM cI cJ a_m u)) r) (dC, dI) vwCl A 2 (wM cI cJ a_m s_m) 26 [(0, .ref (a_m 0))] [.int y0] := by
    intro s_m y0 hd
    intro H locs ls hP hD hS hl
    unfold fX7_farmItem_b26 at hd
    refine lv_istore_n (lv' := [(1, .int y0), (0, .ref (a_m 0))]) hx hb dX7_farmItem_26 rfl hl (Nat.le_of_ble_eq_true rfl) rfl (fun ls hl => ?_)
    refine lv_aload_n hx hb dX7_farmItem_27 rfl (lv_at hl 1 rfl) ?_
    refine lv_ldc2 hx hb hown kc_240 dX7_farmItem_28 ?_
    refine lv_iload_n hx hb dX7_farmItem_31 rfl (lv_at hl 0 rfl) ?_
    refine lv_iconst (v := 0) hx hb dX7_farmItem_32 ki_0 ?_
    refine rx_roi hd (fun v hv => W.runS (As := [.int y0, .int (0 : Int32)]) (rest := [.long (464036 : Int64), .ref (a_m 0)]) hcf (c_X7_field l dC dI cI cJ cQ fu    y0 (0 : Int32) v hv) (va_cwS 2 hts gX7_farmItem_X7_field rfl rfl rfl cd_X7_field ⟨(Nat.le_of_ble_eq_true rfl), (Nat.le_of_ble_eq_true rfl)⟩) (cq_R_S hK hP [] rfl) rfl rfl hl.1 rfl (lv_room (Nat.le_of_ble_eq_true rfl)) dX7_farmItem_33 ⟨Nat.le_refl _, Nat.le_refl _⟩) (fun u33 hd => ?_)
    refine lv_bipush (v := 20) hx hb dX7_farmItem_36 kb_20 ?_
    refine rx_upv1 hd hD hS hA (fun v hv => va_runV (As := [.long (464036 : Int64), .int u33, .int (20 : Int32)]) (rest := []) hcf (c_X7_partItem l dC dI cI cJ cQ fu a_m _  s_m (464036 : Int64) u33 (20 : Int32) v hv) (cwV 3 hts gX7_farmItem_X7_partItem rfl rfl rfl cd_X7_partItem ⟨(Nat.le_of_ble_eq_true rfl), (Nat.le_of_ble_eq_true rfl)⟩) (cq_U_V1 (q0 := 0) (ci := 6) hK hP hD rfl rfl) rfl rfl hl.1 rfl (lv_room (Nat.le_of_ble_eq_true rfl)) dX7_farmItem_38 ⟨Nat.le_refl _, Nat.le_refl _⟩) (fun u38 hd H locs hP hD hS => ?_)
    refine lv_aload_n hx hb dX7_farmItem_41 rfl (lv_at hl 1 rfl) ?_
    refine lv_ldc2 hx hb hown kc_246 dX7_farmItem_42 ?_
    refine lv_iload_n hx hb dX7_farmItem_45 rfl (lv_at hl 0 rfl) ?_
    refine lv_iconst (v := 1) hx hb dX7_farmItem_46 ki_1 ?_
    refine rx_roi hd (fun v hv => W.runS (As := [.int y0, .int (1 : Int32)]) (rest := [.long (8243 : Int64), .ref (a_m 0)]) hcf (c_X7_field l dC dI cI cJ cQ fu    y0 (1 : Int32) v hv) (va_cwS 2 hts gX7_farmItem_X7_field rfl rfl rfl cd_X7_field ⟨(Nat.le_of_ble_eq_true rfl), (Nat.le_of_ble_eq_true rfl)⟩) (cq_R_S hK hP [] rfl) rfl rfl hl.1 rfl (lv_room (Nat.le_of_ble_eq_true rfl)) dX7_farmItem_47 ⟨Nat.le_refl _, Nat.le_refl _⟩) (fun u47 hd => ?_)
    refine lv_sipush (v := 9999) hx hb dX7_farmItem_50 ks_9999 ?_
    refine rx_upv1 hd hD hS hA (fun v hv => va_runV (As := [.long (8243 : Int64), .int u47, .int (9999 : Int32)]) (rest := []) hcf (c_X7_partItem l dC dI cI cJ cQ fu a_m _  u38 (8243 : Int64) u47 (9999 : Int32) v hv) (cwV 3 hts gX7_farmItem_X7_partItem rfl rfl rfl cd_X7_partItem ⟨(Nat.le_of_ble_eq_true rfl), (Nat.le_of_ble_eq_true rfl)⟩) (cq_U_V1 (q0 := 0) (ci := 6) hK hP hD rfl rfl) rfl rfl hl.1 rfl (lv_room (Nat.le_of_ble_eq_true rfl)) dX7_farmItem_53 ⟨Nat.le_refl _, Nat.le_refl _⟩) (fun u53 hd H locs hP hD hS => ?_)
    refine lv_aload_n hx hb dX7_farmItem_56 rfl (lv_at hl 1 rfl) ?_
    refine lv_ldc2 hx hb hown kc_248 dX7_farmItem_57 ?_
    refine lv_iload_n hx hb dX7_farmItem_60 rfl (lv_at hl 0 rfl) ?_
    refine lv_iconst (v := 3) hx hb dX7_farmItem_61 ki_3 ?_
    refine rx_roi hd (fun v hv => W.runS (As := [.int y0, .int (3 : Int32)]) (rest := [.long (20101267 : Int64), .ref (a_m 0)]) hcf (c_X7_field l dC dI cI cJ cQ fu    y0 (3 : Int32) v hv) (va_cwS 2 hts gX7_farmItem_X7_field rfl rfl rfl cd_X7_field ⟨(Nat.le_of_ble_eq_true rfl), (Nat.le_of_ble_eq_true rfl)⟩) (cq_R_S hK hP [] rfl) rfl rfl hl.1 rfl (lv_room (Nat.le_of_ble_eq_true rfl)) dX7_farmItem_62 ⟨Nat.le_refl _, Nat.le_refl _⟩) (fun u62 hd => ?_)
    refine lv_aload_n hx hb dX7_farmItem_65 rfl (lv_at hl 1 rfl) ?_
    refine rx_get hx hb hts fiX7_farmItem_X7 hown hK hP 0 rfl rfl 0 (Nat.le_of_ble_eq_true rfl) fl_7 rfl rfl dX7_farmItem_66 ?_
    refine lv_iconst (v := 0) hx hb dX7_farmItem_69 ki_0 ?_
    refine rx_iald hx hb hK hP 1 0 rfl rfl hd dX7_farmItem_70 (fun v70 hd => ?_)
    refine lv_iconst (v := 1) hx hb dX7_farmItem_71 ki_1 ?_
    refine lv_isub hx hb dX7_farmItem_72 ?_
    refine rx_upv1 hd hD hS hA (fun v hv => va_runV (As := [.long (20101267 : Int64), .int u62, .int (v70 - (1 : Int32))]) (rest := []) hcf (c_X7_partItem l dC dI cI cJ cQ fu a_m _  u53 (20101267 : Int64) u62 (v70 - (1 : Int32)) v hv) (cwV 3 hts gX7_farmItem_X7_partItem rfl rfl rfl cd_X7_partItem ⟨(Nat.le_of_ble_eq_true rfl), (Nat.le_of_ble_eq_true rfl)⟩) (cq_U_V1 (q0 := 0) (ci := 6) hK hP hD rfl rfl) rfl rfl hl.1 rfl (lv_room (Nat.le_of_ble_eq_true rfl)) dX7_farmItem_73 ⟨Nat.le_refl _, Nat.le_refl _⟩) (fun u73 hd H locs hP hD hS => ?_)
    exact rx_retUv (u := u73) (w1 := (fun u : MS => (wM cI cJ a_m u))) hx hb hr hlocks hd hK hP hD hS dX7_farmItem_76
  refine lv_aload_n hx hb dX7_farmItem_0 rfl (lv_at hl 0 rfl) ?_
  refine lv_iconst (v := 1) hx hb dX7_farmItem_1 ki_1 ?_
  refine rx_upv1 hd hD hS hA (fun v hv => va_runV (As := [.int (1 : Int32)]) (rest := []) hcf (c_X7_must l dC dI cI cJ cQ fu a_m _  s_m (1 : Int32) v hv) (cwV 1 hts gX7_farmItem_X7_must rfl rfl rfl cd_X7_must ⟨(Nat.le_of_ble_eq_true rfl), (Nat.le_of_ble_eq_true rfl)⟩) (cq_U_V1 (q0 := 0) (ci := 6) hK hP hD rfl rfl) rfl rfl hl.1 rfl (lv_room (Nat.le_of_ble_eq_true rfl)) dX7_farmItem_2 ⟨Nat.le_refl _, Nat.le_refl _⟩) (fun u2 hd H locs hP hD hS => ?_)
  refine lv_aload_n hx hb dX7_farmItem_5 rfl (lv_at hl 0 rfl) ?_
  refine lv_iconst (v := 0) hx hb dX7_farmItem_6 ki_0 ?_
  refine lv_iconst (v := 3) hx hb dX7_farmItem_7 ki_3 ?_
  refine rx_upv1 hd hD hS hA (fun v hv => va_runV (As := [.int (0 : Int32), .int (3 : Int32)]) (rest := []) hcf (c_X7_number l dC dI cI cJ cQ fu a_m _  u2 (0 : Int32) (3 : Int32) v hv) (cwV 2 hts gX7_farmItem_X7_number rfl rfl rfl cd_X7_number ⟨(Nat.le_of_ble_eq_true rfl), (Nat.le_of_ble_eq_true rfl)⟩) (cq_U_V1 (q0 := 0) (ci := 6) hK hP hD rfl rfl) rfl rfl hl.1 rfl (lv_room (Nat.le_of_ble_eq_true rfl)) dX7_farmItem_8 ⟨Nat.le_refl _, Nat.le_refl _⟩) (fun u8 hd H locs hP hD hS => ?_)
  refine lv_aload_n hx hb dX7_farmItem_11 rfl (lv_at hl 0 rfl) ?_
  refine rx_get hx hb hts fiX7_farmItem_X7 hown hK hP 0 rfl rfl 13 (Nat.le_of_ble_eq_true rfl) fl_194 rfl rfl dX7_farmItem_12 ?_
  refine rx_if_eq hx hb 22 dX7_farmItem_15 rfl hd (fun hd => ?_) (fun hd => ?_)
  · refine lv_aload_n hx hb dX7_farmItem_22 rfl (lv_at hl 0 rfl) ?_
    refine rx_get hx hb hts fiX7_farmItem_X7 hown hK hP 0 rfl rfl 12 (Nat.le_of_ble_eq_true rfl) fl_205 rfl rfl dX7_farmItem_23 ?_
    exact b26   u8 (mgValue u8) hd _ _ _ hP hD hS (lv_sub hl [0] rfl)
  refine lv_iconst (v := 0) hx hb dX7_farmItem_18 ki_0 ?_
  refine lv_goto (tgt := 26) hx hb dX7_farmItem_19 rfl ?_
  exact b26   u8 (0 : Int32) hd _ _ _ hP hD hS (lv_sub hl [0] rfl)
theorem fiX7_item_X7 : ∀ w ∈ wsX70, w ∈ wsX7_item := mem_r _ [88, 89, 90, 91, 92, 93, 94, 95, 96, 97, 98, 99, 100, 101, 102, 103, 104, 105] rfl
set_option maxHeartbeats 8000000 in
set_option maxRecDepth 100000 in
theorem c_X7_item (l : Launch) (dC : Nat → ClassId) (dI : Nat → Nat → Nat) (cI cJ cQ : ClassId) (fu : Nat) (a_m : Nat → Nat) (sz : Nat) (s_m : MS)  (r : MS) (hd : fX7_item fu  s_m  = some r) : mUv l yX7_item wsX7_item (gRm 7 158) [.ref (a_m 0)] (dC, dI) vwCl (gty cI cJ cQ) (wM cI cJ a_m s_m) sz (fun u : MS => (wM cI cJ a_m u)) r := by
  refine Met.ofW (cc := cX7_item) (maxL := 6) (ret := none) (by decide) rfl ?_
  intro p e s m args below meth c s₁ B hml hv
  obtain ⟨hav, hsz, hP, hK, hD0⟩ := hv
  subst hsz
  have hD := hD0.self (sz := s.heap.size)
  generalize hAe : va_A (wM cI cJ a_m s_m) s.heap.size = A at hD ⊢
  have hA : ∀ q : Nat, s.heap.size ≤ q → A q := fun q h => by rw [← hAe]; exact Or.inr h
  have hS : va_S A s.heap s.heap [] := va_S.rf
  have hx := B.exec
  have hb := B.bytes
  have hr := B.returns
  have hts := atoms_spec (ws := wsX7_item) B.pre
  have hown : s.vm.findClass RX7 = some m.cls := findClass_of_methodNamed B.named
  have hlocks := B.notSynchronized
  have hcf : CallFix p m c cX7_item 6 s args wsX7_item RX7 := ⟨hx, hb, hml, hown, hts⟩
  have fl_7 := hts (.fieldLink RX7 7 "BucketGiftModel" "s" "[I") (List.mem_of_getElem? (i := 4) rfl)
  have fl_194 := hts (.fieldLink RX7 194 "BucketGiftModel" "isWrong" "Z") (List.mem_of_getElem? (i := 5) rfl)
  have fl_205 := hts (.fieldLink RX7 205 "BucketGiftModel" "value" "I") (List.mem_of_getElem? (i := 6) rfl)
  have kc_257 := hts (.constantLong RX7 257 (198221)) (List.mem_of_getElem? (i := 1) rfl)
  have kc_262 := hts (.constantLong RX7 262 (759180)) (List.mem_of_getElem? (i := 2) rfl)
  have kc_264 := hts (.constantLong RX7 264 (654910919)) (List.mem_of_getElem? (i := 3) rfl)
  have hg : entryFrame m args 6 = entryFrame m ([.ref (a_m 0)] : List Value).toArray 6 := by rw [hav]
  rw [hg, lg_entry_eq]
  have hl := lv_entry ([.ref (a_m 0)]) (n := 6) (Nat.le_of_ble_eq_true rfl)
  generalize (lg_sl ([.ref (a_m 0)]) ++ List.replicate (6 - (lg_sl ([.ref (a_m 0)])).length) Slot.unset).toArray = ls at hl ⊢
  have hl : lv_has ls 6 [(0, .ref (a_m 0))] := hl
  clear hg
  unfold fX7_item at hd
  have b131 : ∀ (s_m : MS) (y0 : Int32) (y1 : Int32), fX7_item_b131 fu    s_m y0 y1 = some r → bk_U p l e (headSpec wsX7_item (gRm 7 158)).room s m args below meth c (qUv below args s (dC, dI) vwCl (gty cI cJ cQ) A (fun u : MS => (wM cI cJ a_m u)) r) (dC, dI) vwCl A 6 (wM cI cJ a_m s_m) 131 [] [.int y0, .int y1, .ref (a_m 1)] := by
    intro s_m y0 y1 hd
    intro H locs ls hP hD hS hl
    unfold fX7_item_b131 at hd
    refine rx_iast (wM cI cJ a_m (muS s_m (Int32.toNatClampNeg y1) y0)) hx hb hK hP hD hS 1 0 rfl rfl hd (wM_uS ..) dX7_item_131 (fun hd H locs hP hD hS => ?_)
    exact rx_retUv (u := (muS s_m (Int32.toNatClampNeg y1) y0)) (w1 := (fun u : MS => (wM cI cJ a_m u))) hx hb hr hlocks hd hK hP hD hS dX7_item_132
  have b102 : ∀ (s_m : MS) (y0 : Int32), fX7_item_b102 fu    s_m y0 = some r → bk_U p l e (headSpec wsX7_item (gRm 7 158)).room s m args below meth c (qUv below args s (dC, dI) vwCl (gty cI cJ cQ) A (fun u : MS => (wM cI cJ a_m u)) r) (dC, dI) vwCl A 6 (wM cI cJ a_m s_m) 102 [(0, .ref (a_m 0))] [.int y0] := by
    intro s_m y0 hd
    intro H locs ls hP hD hS hl
    unfold fX7_item_b102 at hd
    refine lv_istore (lv' := [(5, .int y0), (0, .ref (a_m 0))]) hx hb dX7_item_102 hl (Nat.le_of_ble_eq_true rfl) rfl (fun ls hl => ?_)
    refine lv_aload_n hx hb dX7_item_104 rfl (lv_at hl 1 rfl) ?_
    refine rx_get hx hb hts fiX7_item_X7 hown hK hP 0 rfl rfl 0 (Nat.le_of_ble_eq_true rfl) fl_7 rfl rfl dX7_item_105 ?_
    refine lv_iload hx hb dX7_item_108 (lv_at hl 0 rfl) ?_
    refine lv_aload_n hx hb dX7_item_110 rfl (lv_at hl 1 rfl) ?_
    refine rx_get hx hb hts fiX7_item_X7 hown hK hP 0 rfl rfl 13 (Nat.le_of_ble_eq_true rfl) fl_194 rfl rfl dX7_item_111 ?_
    refine rx_if_eq hx hb 127 dX7_item_114 rfl hd (fun hd => ?_) (fun hd => ?_)
    · refine lv_aload_n hx hb dX7_item_127 rfl (lv_at hl 1 rfl) ?_
      refine rx_get hx hb hts fiX7_item_X7 hown hK hP 0 rfl rfl 12 (Nat.le_of_ble_eq_true rfl) fl_205 rfl rfl dX7_item_128 ?_
      exact b131   s_m (mgValue s_m) y0 hd _ _ _ hP hD hS (lv_sub hl [] rfl)
    refine lv_aload_n hx hb dX7_item_117 rfl (lv_at hl 1 rfl) ?_
    refine rx_get hx hb hts fiX7_item_X7 hown hK hP 0 rfl rfl 0 (Nat.le_of_ble_eq_true rfl) fl_7 rfl rfl dX7_item_118 ?_
    refine lv_iload hx hb dX7_item_121 (lv_at hl 0 rfl) ?_
    refine rx_iald hx hb hK hP 1 0 rfl rfl hd dX7_item_123 (fun v123 hd => ?_)
    refine lv_goto (tgt := 131) hx hb dX7_item_124 rfl ?_
    exact b131   s_m v123 y0 hd _ _ _ hP hD hS (lv_sub hl [] rfl)
  have b89 : ∀ (s_m : MS) (x4 : Int32) (y0 : Int32) (y1 : Int32), fX7_item_b89 fu    s_m x4 y0 y1 = some r → bk_U p l e (headSpec wsX7_item (gRm 7 158)).room s m args below meth c (qUv below args s (dC, dI) vwCl (gty cI cJ cQ) A (fun u : MS => (wM cI cJ a_m u)) r) (dC, dI) vwCl A 6 (wM cI cJ a_m s_m) 89 [(0, .ref (a_m 0)), (4, .int x4)] [.int y0, .int y1, .ref (a_m 0)] := by
    intro s_m x4 y0 y1 hd
    intro H locs ls hP hD hS hl
    unfold fX7_item_b89 at hd
    refine rx_upv1 hd hD hS hA (fun v hv => va_runV (As := [.int y1, .int y0]) (rest := []) hcf (c_X7_number l dC dI cI cJ cQ fu a_m _  s_m y1 y0 v hv) (cwV 2 hts gX7_item_X7_number rfl rfl rfl cd_X7_number ⟨(Nat.le_of_ble_eq_true rfl), (Nat.le_of_ble_eq_true rfl)⟩) (cq_U_V1 (q0 := 0) (ci := 6) hK hP hD rfl rfl) rfl rfl hl.1 rfl (lv_room (Nat.le_of_ble_eq_true rfl)) dX7_item_89 ⟨Nat.le_refl _, Nat.le_refl _⟩) (fun u89 hd H locs hP hD hS => ?_)
    refine lv_iload hx hb dX7_item_92 (lv_at hl 1 rfl) ?_
    refine rx_if_eq hx hb 101 dX7_item_94 rfl hd (fun hd => ?_) (fun hd => ?_)
    · refine lv_iconst (v := 3) hx hb dX7_item_101 ki_3 ?_
      exact b102   u89 (3 : Int32) hd _ _ _ hP hD hS (lv_sub hl [0] rfl)
    refine lv_iconst (v := 2) hx hb dX7_item_97 ki_2 ?_
    refine lv_goto (tgt := 102) hx hb dX7_item_98 rfl ?_
    exact b102   u89 (2 : Int32) hd _ _ _ hP hD hS (lv_sub hl [0] rfl)
  have b71 : ∀ (s_m : MS) (x4 : Int32) (y0 : Int32), fX7_item_b71 fu    s_m x4 y0 = some r → bk_U p l e (headSpec wsX7_item (gRm 7 158)).room s m args below meth c (qUv below args s (dC, dI) vwCl (gty cI cJ cQ) A (fun u : MS => (wM cI cJ a_m u)) r) (dC, dI) vwCl A 6 (wM cI cJ a_m s_m) 71 [(0, .ref (a_m 0)), (4, .int x4)] [.int y0, .ref (a_m 0)] := by
    intro s_m x4 y0 hd
    intro H locs ls hP hD hS hl
    unfold fX7_item_b71 at hd
    refine rx_upv1 hd hD hS hA (fun v hv => va_runV (As := [.int y0]) (rest := []) hcf (c_X7_must l dC dI cI cJ cQ fu a_m _  s_m y0 v hv) (cwV 1 hts gX7_item_X7_must rfl rfl rfl cd_X7_must ⟨(Nat.le_of_ble_eq_true rfl), (Nat.le_of_ble_eq_true rfl)⟩) (cq_U_V1 (q0 := 0) (ci := 6) hK hP hD rfl rfl) rfl rfl hl.1 rfl (lv_room (Nat.le_of_ble_eq_true rfl)) dX7_item_71 ⟨Nat.le_refl _, Nat.le_refl _⟩) (fun u71 hd H locs hP hD hS => ?_)
    refine lv_aload_n hx hb dX7_item_74 rfl (lv_at hl 0 rfl) ?_
    refine lv_iconst (v := 0) hx hb dX7_item_75 ki_0 ?_
    refine lv_iload hx hb dX7_item_76 (lv_at hl 1 rfl) ?_
    refine rx_if_eq hx hb 87 dX7_item_78 rfl hd (fun hd => ?_) (fun hd => ?_)
    · refine lv_bipush (v := 99) hx hb dX7_item_87 kb_99 ?_
      exact b89   u71 x4 (99 : Int32) (0 : Int32) hd _ _ _ hP hD hS (lv_sub hl [0, 1] rfl)
    refine lv_sipush (v := 9999) hx hb dX7_item_81 ks_9999 ?_
    refine lv_goto (tgt := 89) hx hb dX7_item_84 rfl ?_
    exact b89   u71 x4 (9999 : Int32) (0 : Int32) hd _ _ _ hP hD hS (lv_sub hl [0, 1] rfl)
  have b50 : ∀ (s_m : MS) (x2 : Int64) (y0 : Int32), fX7_item_b50 fu    s_m x2 y0 = some r → bk_U p l e (headSpec wsX7_item (gRm 7 158)).room s m args below meth c (qUv below args s (dC, dI) vwCl (gty cI cJ cQ) A (fun u : MS => (wM cI cJ a_m u)) r) (dC, dI) vwCl A 6 (wM cI cJ a_m s_m) 50 [(0, .ref (a_m 0)), (2, .long x2)] [.int y0] := by
    intro s_m x2 y0 hd
    intro H locs ls hP hD hS hl
    unfold fX7_item_b50 at hd
    refine lv_istore (lv' := [(4, .int y0), (0, .ref (a_m 0)), (2, .long x2)]) hx hb dX7_item_50 hl (Nat.le_of_ble_eq_true rfl) rfl (fun ls hl => ?_)
    refine lv_aload_n hx hb dX7_item_52 rfl (lv_at hl 1 rfl) ?_
    refine lv_iload hx hb dX7_item_53 (lv_at hl 0 rfl) ?_
    refine rx_if_ne hx hb 66 dX7_item_55 rfl hd (fun hd => ?_) (fun hd => ?_)
    · refine lv_iconst (v := 1) hx hb dX7_item_66 ki_1 ?_
      refine lv_goto (tgt := 71) hx hb dX7_item_67 rfl ?_
      exact b71   s_m y0 (1 : Int32) hd _ _ _ hP hD hS (lv_sub hl [1, 0] rfl)
    refine lv_lload_n hx hb dX7_item_58 rfl (lv_at hl 2 rfl) ?_
    refine lv_ldc2 hx hb hown kc_264 dX7_item_59 ?_
    refine W.lcmp hx hb dX7_item_62 ?_
    refine rx_if_ne hx hb 70 dX7_item_63 rfl hd (fun hd => ?_) (fun hd => ?_)
    · refine lv_iconst (v := 0) hx hb dX7_item_70 ki_0 ?_
      exact b71   s_m y0 (0 : Int32) hd _ _ _ hP hD hS (lv_sub hl [1, 0] rfl)
    refine lv_iconst (v := 1) hx hb dX7_item_66 ki_1 ?_
    refine lv_goto (tgt := 71) hx hb dX7_item_67 rfl ?_
    exact b71   s_m y0 (1 : Int32) hd _ _ _ hP hD hS (lv_sub hl [1, 0] rfl)
  refine lv_aload_n hx hb dX7_item_0 rfl (lv_at hl 0 rfl) ?_
  refine rx_roi hd (fun v hv => W.runV (As := []) (rest := []) hcf (c_X7_kindHere l dC dI cI cJ cQ fu a_m  s_m  v hv) (cwV 0 hts gX7_item_X7_kindHere rfl rfl rfl cd_X7_kindHere ⟨(Nat.le_of_ble_eq_true rfl), (Nat.le_of_ble_eq_true rfl)⟩) (cq_R_V1 (q0 := 0) (ci := 6) hK hP rfl rfl) rfl rfl hl.1 rfl (lv_room (Nat.le_of_ble_eq_true rfl)) dX7_item_1 ⟨Nat.le_refl _, Nat.le_refl _⟩) (fun u1 hd => ?_)
  refine lv_istore_n (lv' := [(1, .int u1), (0, .ref (a_m 0))]) hx hb dX7_item_4 rfl hl (Nat.le_of_ble_eq_true rfl) rfl (fun ls hl => ?_)
  refine lv_aload_n hx hb dX7_item_5 rfl (lv_at hl 1 rfl) ?_
  refine rx_rol hd (fun v hv => W.runV (As := []) (rest := []) hcf (c_X7_word l dC dI cI cJ cQ fu a_m  s_m  v hv) (cwV 0 hts gX7_item_X7_word rfl rfl rfl cd_X7_word ⟨(Nat.le_of_ble_eq_true rfl), (Nat.le_of_ble_eq_true rfl)⟩) (cq_R_V1 (q0 := 0) (ci := 6) hK hP rfl rfl) rfl rfl hl.1 rfl (lv_room (Nat.le_of_ble_eq_true rfl)) dX7_item_6 ⟨Nat.le_refl _, Nat.le_refl _⟩) (fun u6 hd => ?_)
  refine lv_lstore_n (lv' := [(2, .long u6), (1, .int u1), (0, .ref (a_m 0))]) hx hb dX7_item_9 rfl hl (Nat.le_of_ble_eq_true rfl) rfl (fun ls hl => ?_)
  refine lv_iload_n hx hb dX7_item_10 rfl (lv_at hl 1 rfl) ?_
  refine rx_if_lt hx hb 22 dX7_item_11 rfl hd (fun hd => ?_) (fun hd => ?_)
  · refine lv_lload_n hx hb dX7_item_22 rfl (lv_at hl 0 rfl) ?_
    refine lv_ldc2 hx hb hown kc_257 dX7_item_23 ?_
    refine W.lcmp hx hb dX7_item_26 ?_
    refine rx_if_ne hx hb 37 dX7_item_27 rfl hd (fun hd => ?_) (fun hd => ?_)
    · refine lv_lload_n hx hb dX7_item_37 rfl (lv_at hl 0 rfl) ?_
      refine lv_ldc2 hx hb hown kc_262 dX7_item_38 ?_
      refine W.lcmp hx hb dX7_item_41 ?_
      refine rx_if_ne hx hb 49 dX7_item_42 rfl hd (fun hd => ?_) (fun hd => ?_)
      · refine lv_iconst (v := 0) hx hb dX7_item_49 ki_0 ?_
        exact b50   s_m u6 (0 : Int32) hd _ _ _ hP hD hS (lv_sub hl [2, 0] rfl)
      refine lv_iconst (v := 1) hx hb dX7_item_45 ki_1 ?_
      refine lv_goto (tgt := 50) hx hb dX7_item_46 rfl ?_
      exact b50   s_m u6 (1 : Int32) hd _ _ _ hP hD hS (lv_sub hl [2, 0] rfl)
    refine lv_aload_n hx hb dX7_item_30 rfl (lv_at hl 2 rfl) ?_
    refine rx_upv1 hd hD hS hA (fun v hv => va_runV (As := []) (rest := []) hcf (c_X7_farmItem l dC dI cI cJ cQ fu a_m _  s_m  v hv) (cwV 0 hts gX7_item_X7_farmItem rfl rfl rfl cd_X7_farmItem ⟨(Nat.le_of_ble_eq_true rfl), (Nat.le_of_ble_eq_true rfl)⟩) (cq_U_V1 (q0 := 0) (ci := 6) hK hP hD rfl rfl) rfl rfl hl.1 rfl (lv_room (Nat.le_of_ble_eq_true rfl)) dX7_item_31 ⟨Nat.le_refl _, Nat.le_refl _⟩) (fun u31 hd H locs hP hD hS => ?_)
    refine lv_goto (tgt := 132) hx hb dX7_item_34 rfl ?_
    exact rx_retUv (u := u31) (w1 := (fun u : MS => (wM cI cJ a_m u))) hx hb hr hlocks hd hK hP hD hS dX7_item_132
  refine lv_aload_n hx hb dX7_item_14 rfl (lv_at hl 2 rfl) ?_
  refine lv_iload_n hx hb dX7_item_15 rfl (lv_at hl 1 rfl) ?_
  refine rx_upv1 hd hD hS hA (fun v hv => va_runV (As := [.int u1]) (rest := []) hcf (c_X7_personItem l dC dI cI cJ cQ fu a_m _  s_m u1 v hv) (cwV 1 hts gX7_item_X7_personItem rfl rfl rfl cd_X7_personItem ⟨(Nat.le_of_ble_eq_true rfl), (Nat.le_of_ble_eq_true rfl)⟩) (cq_U_V1 (q0 := 0) (ci := 6) hK hP hD rfl rfl) rfl rfl hl.1 rfl (lv_room (Nat.le_of_ble_eq_true rfl)) dX7_item_16 ⟨Nat.le_refl _, Nat.le_refl _⟩) (fun u16 hd H locs hP hD hS => ?_)
  refine lv_goto (tgt := 132) hx hb dX7_item_19 rfl ?_
  exact rx_retUv (u := u16) (w1 := (fun u : MS => (wM cI cJ a_m u))) hx hb hr hlocks hd hK hP hD hS dX7_item_132
theorem fiX7_parish_X7 : ∀ w ∈ wsX70, w ∈ wsX7_parish := mem_r _ [101, 102, 103, 104, 105, 106, 107, 108, 109, 110, 111, 112, 113, 114, 115, 116, 117, 118] rfl
set_option maxHeartbeats 8000000 in
set_option maxRecDepth 100000 in
theorem c_X7_parish (l : Launch) (dC : Nat → ClassId) (dI : Nat → Nat → Nat) (cI cJ cQ : ClassId) (fu : Nat) (a_m : Nat → Nat) (sz : Nat) (s_m : MS)  (r : Int32 × MS) (hd : fX7_parish fu  s_m  = some r) : mUi l yX7_parish wsX7_parish (gRm 8 183) [.ref (a_m 0)] (dC, dI) vwCl (gty cI cJ cQ) (wM cI cJ a_m s_m) sz (fun u : MS => (wM cI cJ a_m u)) r := by
  refine Met.ofW (cc := cX7_parish) (maxL := 2) (ret := (some .int)) (by decide) rfl ?_
  intro p e s m args below meth c s₁ B hml hv
  obtain ⟨hav, hsz, hP, hK, hD0⟩ := hv
  subst hsz
  have hD := hD0.self (sz := s.heap.size)
  generalize hAe : va_A (wM cI cJ a_m s_m) s.heap.size = A at hD ⊢
  have hA : ∀ q : Nat, s.heap.size ≤ q → A q := fun q h => by rw [← hAe]; exact Or.inr h
  have hS : va_S A s.heap s.heap [] := va_S.rf
  have hx := B.exec
  have hb := B.bytes
  have hr := B.returns
  have hts := atoms_spec (ws := wsX7_parish) B.pre
  have hown : s.vm.findClass RX7 = some m.cls := findClass_of_methodNamed B.named
  have hlocks := B.notSynchronized
  have hcf : CallFix p m c cX7_parish 2 s args wsX7_parish RX7 := ⟨hx, hb, hml, hown, hts⟩
  have fl_194 := hts (.fieldLink RX7 194 "BucketGiftModel" "isWrong" "Z") (List.mem_of_getElem? (i := 1) rfl)
  have fl_179 := hts (.fieldLink RX7 179 "BucketGiftModel" "to" "I") (List.mem_of_getElem? (i := 2) rfl)
  have fl_168 := hts (.fieldLink RX7 168 "BucketGiftModel" "taped" "I") (List.mem_of_getElem? (i := 4) rfl)
  have fl_182 := hts (.fieldLink RX7 182 "BucketGiftModel" "from" "I") (List.mem_of_getElem? (i := 3) rfl)
  have hg : entryFrame m args 2 = entryFrame m ([.ref (a_m 0)] : List Value).toArray 2 := by rw [hav]
  rw [hg, lg_entry_eq]
  have hl := lv_entry ([.ref (a_m 0)]) (n := 2) (Nat.le_of_ble_eq_true rfl)
  generalize (lg_sl ([.ref (a_m 0)]) ++ List.replicate (2 - (lg_sl ([.ref (a_m 0)])).length) Slot.unset).toArray = ls at hl ⊢
  have hl : lv_has ls 2 [(0, .ref (a_m 0))] := hl
  clear hg
  unfold fX7_parish at hd
  have b97 : ∀ (s_m : MS) (x1 : Int32), fX7_parish_b97 fu    s_m x1 = some r → bk_U p l e (headSpec wsX7_parish (gRm 8 183)).room s m args below meth c (qUi below args s (dC, dI) vwCl (gty cI cJ cQ) A (fun u : MS => (wM cI cJ a_m u)) r) (dC, dI) vwCl A 2 (wM cI cJ a_m s_m) 97 [(0, .ref (a_m 0)), (1, .int x1)] [] := by
    intro s_m x1 hd
    intro H locs ls hP hD hS hl
    unfold fX7_parish_b97 at hd
    refine lv_aload_n hx hb dX7_parish_97 rfl (lv_at hl 0 rfl) ?_
    refine lv_iconst (v := 0) hx hb dX7_parish_98 ki_0 ?_
    refine rx_puti (wM cI cJ a_m (msTaped s_m (0 : Int32))) hx hb hts fiX7_parish_X7 tyX7 tyX7_ok nmX7 hown hK hP hD hS 0 rfl rfl 9 (Nat.le_of_ble_eq_true rfl) fl_168 rfl rfl rfl (Nat.le_of_ble_eq_true rfl) (wM_sTaped ..) dX7_parish_99 (fun H locs hP hD hS => ?_)
    refine lv_aload_n hx hb dX7_parish_102 rfl (lv_at hl 0 rfl) ?_
    refine rx_get hx hb hts fiX7_parish_X7 hown hK hP 0 rfl rfl 13 (Nat.le_of_ble_eq_true rfl) fl_194 rfl rfl dX7_parish_103 ?_
    refine rx_if_eq hx hb 118 dX7_parish_106 rfl hd (fun hd => ?_) (fun hd => ?_)
    · refine lv_iload_n hx hb dX7_parish_118 rfl (lv_at hl 1 rfl) ?_
      exact rx_retUi (u := (msTaped s_m (0 : Int32))) (w1 := (fun u : MS => (wM cI cJ a_m u))) hx hb hr hlocks hd hK hP hD hS dX7_parish_119
    refine lv_iconst (v := -1) hx hb dX7_parish_109 ki_m1 ?_
    refine lv_aload_n hx hb dX7_parish_110 rfl (lv_at hl 0 rfl) ?_
    refine rx_get hx hb hts fiX7_parish_X7 hown hK hP 0 rfl rfl 10 (Nat.le_of_ble_eq_true rfl) fl_182 rfl rfl dX7_parish_111 ?_
    refine lv_isub hx hb dX7_parish_114 ?_
    refine lv_goto (tgt := 119) hx hb dX7_parish_115 rfl ?_
    exact rx_retUi (u := (msTaped s_m (0 : Int32))) (w1 := (fun u : MS => (wM cI cJ a_m u))) hx hb hr hlocks hd hK hP hD hS dX7_parish_119
  have b83 : ∀ (s_m : MS) (x1 : Int32) (y0 : Int32), fX7_parish_b83 fu    s_m x1 y0 = some r → bk_U p l e (headSpec wsX7_parish (gRm 8 183)).room s m args below meth c (qUi below args s (dC, dI) vwCl (gty cI cJ cQ) A (fun u : MS => (wM cI cJ a_m u)) r) (dC, dI) vwCl A 2 (wM cI cJ a_m s_m) 83 [(0, .ref (a_m 0)), (1, .int x1)] [.int y0, .ref (a_m 0)] := by
    intro s_m x1 y0 hd
    intro H locs ls hP hD hS hl
    unfold fX7_parish_b83 at hd
    refine rx_putz (wM cI cJ a_m (msIsWrong s_m y0)) hx hb hts fiX7_parish_X7 tyX7 tyX7_ok nmX7 hown hK hP hD hS 0 rfl rfl 13 (Nat.le_of_ble_eq_true rfl) fl_194 rfl rfl rfl (Nat.le_of_ble_eq_true rfl) hd (wM_sIsWrong ..) dX7_parish_83 (fun hd H locs hP hD hS => ?_)
    refine lv_aload_n hx hb dX7_parish_86 rfl (lv_at hl 0 rfl) ?_
    refine rx_get hx hb hts fiX7_parish_X7 hown hK hP 0 rfl rfl 13 (Nat.le_of_ble_eq_true rfl) fl_194 rfl rfl dX7_parish_87 ?_
    refine rx_if_eq hx hb 97 dX7_parish_90 rfl hd (fun hd => ?_) (fun hd => ?_)
    · exact b97   (msIsWrong s_m y0) x1 hd _ _ _ hP hD hS (lv_sub hl [0, 1] rfl)
    refine lv_aload_n hx hb dX7_parish_93 rfl (lv_at hl 0 rfl) ?_
    refine rx_upv1 hd hD hS hA (fun v hv => va_runV (As := []) (rest := []) hcf (c_X7_putsBack l dC dI cI cJ cQ fu a_m _  (msIsWrong s_m y0)  v hv) (cwV 0 hts gX7_parish_X7_putsBack rfl rfl rfl cd_X7_putsBack ⟨(Nat.le_of_ble_eq_true rfl), (Nat.le_of_ble_eq_true rfl)⟩) (cq_U_V1 (q0 := 0) (ci := 6) hK hP hD rfl rfl) rfl rfl hl.1 rfl (lv_room (Nat.le_of_ble_eq_true rfl)) dX7_parish_94 ⟨Nat.le_refl _, Nat.le_refl _⟩) (fun u94 hd H locs hP hD hS => ?_)
    exact b97   u94 x1 hd _ _ _ hP hD hS (lv_sub hl [0, 1] rfl)
  have b59 : ∀ (s_m : MS) (x1 : Int32), fX7_parish_b59 fu    s_m x1 = some r → bk_U p l e (headSpec wsX7_parish (gRm 8 183)).room s m args below meth c (qUi below args s (dC, dI) vwCl (gty cI cJ cQ) A (fun u : MS => (wM cI cJ a_m u)) r) (dC, dI) vwCl A 2 (wM cI cJ a_m s_m) 59 [(0, .ref (a_m 0)), (1, .int x1)] [] := by
    intro s_m x1 hd
    intro H locs ls hP hD hS hl
    unfold fX7_parish_b59 at hd
    refine lv_aload_n hx hb dX7_parish_59 rfl (lv_at hl 0 rfl) ?_
    refine lv_aload_n hx hb dX7_parish_60 rfl (lv_at hl 0 rfl) ?_
    refine rx_get hx hb hts fiX7_parish_X7 hown hK hP 0 rfl rfl 13 (Nat.le_of_ble_eq_true rfl) fl_194 rfl rfl dX7_parish_61 ?_
    refine rx_if_ne hx hb 78 dX7_parish_64 rfl hd (fun hd => ?_) (fun hd => ?_)
    · refine lv_iconst (v := 1) hx hb dX7_parish_78 ki_1 ?_
      refine lv_goto (tgt := 83) hx hb dX7_parish_79 rfl ?_
      exact b83   s_m x1 (1 : Int32) hd _ _ _ hP hD hS (lv_sub hl [0, 1] rfl)
    refine lv_aload_n hx hb dX7_parish_67 rfl (lv_at hl 0 rfl) ?_
    refine rx_get hx hb hts fiX7_parish_X7 hown hK hP 0 rfl rfl 10 (Nat.le_of_ble_eq_true rfl) fl_182 rfl rfl dX7_parish_68 ?_
    refine lv_aload_n hx hb dX7_parish_71 rfl (lv_at hl 0 rfl) ?_
    refine rx_get hx hb hts fiX7_parish_X7 hown hK hP 0 rfl rfl 9 (Nat.le_of_ble_eq_true rfl) fl_168 rfl rfl dX7_parish_72 ?_
    refine rx_icmp_ge hx hb 82 dX7_parish_75 rfl hd (fun hd => ?_) (fun hd => ?_)
    · refine lv_iconst (v := 0) hx hb dX7_parish_82 ki_0 ?_
      exact b83   s_m x1 (0 : Int32) hd _ _ _ hP hD hS (lv_sub hl [0, 1] rfl)
    refine lv_iconst (v := 1) hx hb dX7_parish_78 ki_1 ?_
    refine lv_goto (tgt := 83) hx hb dX7_parish_79 rfl ?_
    exact b83   s_m x1 (1 : Int32) hd _ _ _ hP hD hS (lv_sub hl [0, 1] rfl)
  have b24 : ∀ (s_m : MS) (x1 : Int32), fX7_parish_b24 fu     s_m x1 = some r → bk_U p l e (headSpec wsX7_parish (gRm 8 183)).room s m args below meth c (qUi below args s (dC, dI) vwCl (gty cI cJ cQ) A (fun u : MS => (wM cI cJ a_m u)) r) (dC, dI) vwCl A 2 (wM cI cJ a_m s_m) 24 [(0, .ref (a_m 0)), (1, .int x1)] [] := by
    have L : ∀ (n : Nat) (s_m : MS) (x1 : Int32), g_lp (fun _ _ => none) (fX7_parish_b24B fu    ) n s_m x1 = some r → bk_U p l e (headSpec wsX7_parish (gRm 8 183)).room s m args below meth c (qUi below args s (dC, dI) vwCl (gty cI cJ cQ) A (fun u : MS => (wM cI cJ a_m u)) r) (dC, dI) vwCl A 2 (wM cI cJ a_m s_m) 24 [(0, .ref (a_m 0)), (1, .int x1)] [] := by
      intro n
      induction n with
      | zero => intro s_m x1 hd; exact absurd hd (by intro h; cases h)
      | succ n k24 =>
        intro s_m x1 hd
        intro H locs ls hP hD hS hl
        have hd : fX7_parish_b24B fu     (g_lp (fun _ _ => none) (fX7_parish_b24B fu    ) n) s_m x1 = some r := hd
        unfold fX7_parish_b24B at hd
        refine lv_aload_n hx hb dX7_parish_24 rfl (lv_at hl 0 rfl) ?_
        refine rx_get hx hb hts fiX7_parish_X7 hown hK hP 0 rfl rfl 13 (Nat.le_of_ble_eq_true rfl) fl_194 rfl rfl dX7_parish_25 ?_
        refine rx_if_ne hx hb 59 dX7_parish_28 rfl hd (fun hd => ?_) (fun hd => ?_)
        · exact b59   s_m x1 hd _ _ _ hP hD hS (lv_sub hl [0, 1] rfl)
        refine lv_aload_n hx hb dX7_parish_31 rfl (lv_at hl 0 rfl) ?_
        refine lv_aload_n hx hb dX7_parish_32 rfl (lv_at hl 0 rfl) ?_
        refine rx_get hx hb hts fiX7_parish_X7 hown hK hP 0 rfl rfl 10 (Nat.le_of_ble_eq_true rfl) fl_182 rfl rfl dX7_parish_33 ?_
        refine rx_roi hd (fun v hv => W.runV (As := [.int (mgFrom s_m)]) (rest := []) hcf (c_X7_byteAt l dC dI cI cJ cQ fu a_m  s_m (mgFrom s_m) v hv) (cwV 1 hts gX7_parish_X7_byteAt rfl rfl rfl cd_X7_byteAt ⟨(Nat.le_of_ble_eq_true rfl), (Nat.le_of_ble_eq_true rfl)⟩) (cq_R_V1 (q0 := 0) (ci := 6) hK hP rfl rfl) rfl rfl hl.1 rfl (lv_room (Nat.le_of_ble_eq_true rfl)) dX7_parish_36 ⟨Nat.le_refl _, Nat.le_refl _⟩) (fun u36 hd => ?_)
        refine lv_bipush (v := 59) hx hb dX7_parish_39 kb_59 ?_
        refine rx_icmp_ne hx hb 59 dX7_parish_41 rfl hd (fun hd => ?_) (fun hd => ?_)
        · exact b59   s_m x1 hd _ _ _ hP hD hS (lv_sub hl [0, 1] rfl)
        refine lv_aload_n hx hb dX7_parish_44 rfl (lv_at hl 0 rfl) ?_
        refine lv_iconst (v := 1) hx hb dX7_parish_45 ki_1 ?_
        refine rx_upv1 hd hD hS hA (fun v hv => va_runV (As := [.int (1 : Int32)]) (rest := []) hcf (c_X7_must l dC dI cI cJ cQ fu a_m _  s_m (1 : Int32) v hv) (cwV 1 hts gX7_parish_X7_must rfl rfl rfl cd_X7_must ⟨(Nat.le_of_ble_eq_true rfl), (Nat.le_of_ble_eq_true rfl)⟩) (cq_U_V1 (q0 := 0) (ci := 6) hK hP hD rfl rfl) rfl rfl hl.1 rfl (lv_room (Nat.le_of_ble_eq_true rfl)) dX7_parish_46 ⟨Nat.le_refl _, Nat.le_refl _⟩) (fun u46 hd H locs hP hD hS => ?_)
        refine lv_aload_n hx hb dX7_parish_49 rfl (lv_at hl 0 rfl) ?_
        refine rx_upv1 hd hD hS hA (fun v hv => va_runV (As := []) (rest := []) hcf (c_X7_item l dC dI cI cJ cQ fu a_m _  u46  v hv) (cwV 0 hts gX7_parish_X7_item rfl rfl rfl cd_X7_item ⟨(Nat.le_of_ble_eq_true rfl), (Nat.le_of_ble_eq_true rfl)⟩) (cq_U_V1 (q0 := 0) (ci := 6) hK hP hD rfl rfl) rfl rfl hl.1 rfl (lv_room (Nat.le_of_ble_eq_true rfl)) dX7_parish_50 ⟨Nat.le_refl _, Nat.le_refl _⟩) (fun u50 hd H locs hP hD hS => ?_)
        refine rx_iinc (lv' := fun z => (1, .int z) :: [(0, .ref (a_m 0))]) hx hb (j := 1) dX7_parish_53 hl rfl ki_1 hd (Nat.le_of_ble_eq_true rfl) (fun _ => rfl) (fun x1_53 hd ls hl => ?_)
        refine lv_goto (tgt := 24) hx hb dX7_parish_56 rfl ?_
        exact k24 u50 x1_53 hd _ _ _ hP hD hS (lv_sub hl [1, 0] rfl)
    exact fun s_m x1 => L fu s_m x1
  refine lv_aload_n hx hb dX7_parish_0 rfl (lv_at hl 0 rfl) ?_
  refine rx_upv1 hd hD hS hA (fun v hv => va_runV (As := []) (rest := []) hcf (c_X7_saves l dC dI cI cJ cQ fu a_m _  s_m  v hv) (cwV 0 hts gX7_parish_X7_saves rfl rfl rfl cd_X7_saves ⟨(Nat.le_of_ble_eq_true rfl), (Nat.le_of_ble_eq_true rfl)⟩) (cq_U_V1 (q0 := 0) (ci := 6) hK hP hD rfl rfl) rfl rfl hl.1 rfl (lv_room (Nat.le_of_ble_eq_true rfl)) dX7_parish_1 ⟨Nat.le_refl _, Nat.le_refl _⟩) (fun u1 hd H locs hP hD hS => ?_)
  refine lv_aload_n hx hb dX7_parish_4 rfl (lv_at hl 0 rfl) ?_
  refine lv_iconst (v := 0) hx hb dX7_parish_5 ki_0 ?_
  refine rx_putz (wM cI cJ a_m (msIsWrong u1 (0 : Int32))) hx hb hts fiX7_parish_X7 tyX7 tyX7_ok nmX7 hown hK hP hD hS 0 rfl rfl 13 (Nat.le_of_ble_eq_true rfl) fl_194 rfl rfl rfl (Nat.le_of_ble_eq_true rfl) hd (wM_sIsWrong ..) dX7_parish_6 (fun hd H locs hP hD hS => ?_)
  refine lv_aload_n hx hb dX7_parish_9 rfl (lv_at hl 0 rfl) ?_
  refine lv_iconst (v := 0) hx hb dX7_parish_10 ki_0 ?_
  refine rx_puti (wM cI cJ a_m (msTo (msIsWrong u1 (0 : Int32)) (0 : Int32))) hx hb hts fiX7_parish_X7 tyX7 tyX7_ok nmX7 hown hK hP hD hS 0 rfl rfl 11 (Nat.le_of_ble_eq_true rfl) fl_179 rfl rfl rfl (Nat.le_of_ble_eq_true rfl) (wM_sTo ..) dX7_parish_11 (fun H locs hP hD hS => ?_)
  refine lv_aload_n hx hb dX7_parish_14 rfl (lv_at hl 0 rfl) ?_
  refine rx_upv1 hd hD hS hA (fun v hv => va_runV (As := []) (rest := []) hcf (c_X7_token l dC dI cI cJ cQ fu a_m _  (msTo (msIsWrong u1 (0 : Int32)) (0 : Int32))  v hv) (cwV 0 hts gX7_parish_X7_token rfl rfl rfl cd_X7_token ⟨(Nat.le_of_ble_eq_true rfl), (Nat.le_of_ble_eq_true rfl)⟩) (cq_U_V1 (q0 := 0) (ci := 6) hK hP hD rfl rfl) rfl rfl hl.1 rfl (lv_room (Nat.le_of_ble_eq_true rfl)) dX7_parish_15 ⟨Nat.le_refl _, Nat.le_refl _⟩) (fun u15 hd H locs hP hD hS => ?_)
  refine lv_iconst (v := 1) hx hb dX7_parish_18 ki_1 ?_
  refine lv_istore_n (lv' := [(1, .int (1 : Int32)), (0, .ref (a_m 0))]) hx hb dX7_parish_19 rfl hl (Nat.le_of_ble_eq_true rfl) rfl (fun ls hl => ?_)
  refine lv_aload_n hx hb dX7_parish_20 rfl (lv_at hl 1 rfl) ?_
  refine rx_upv1 hd hD hS hA (fun v hv => va_runV (As := []) (rest := []) hcf (c_X7_item l dC dI cI cJ cQ fu a_m _  u15  v hv) (cwV 0 hts gX7_parish_X7_item rfl rfl rfl cd_X7_item ⟨(Nat.le_of_ble_eq_true rfl), (Nat.le_of_ble_eq_true rfl)⟩) (cq_U_V1 (q0 := 0) (ci := 6) hK hP hD rfl rfl) rfl rfl hl.1 rfl (lv_room (Nat.le_of_ble_eq_true rfl)) dX7_parish_21 ⟨Nat.le_refl _, Nat.le_refl _⟩) (fun u21 hd H locs hP hD hS => ?_)
  exact b24   u21 (1 : Int32) hd _ _ _ hP hD hS (lv_sub hl [1, 0] rfl)
set_option maxHeartbeats 8000000 in
set_option maxRecDepth 100000 in
theorem c_X7_isOne (l : Launch) (dC : Nat → ClassId) (dI : Nat → Nat → Nat) (cI cJ cQ : ClassId) (fu : Nat)   (x0 : Int32) (r : Int32) (hd : fX7_isOne fu   x0 = some r) : mRi l yX7_isOne wsX7_isOne (gRm 1 25) [.int x0] (cq_R (dC, dI) vwCl (gty cI cJ cQ) ([] : va_W)) r := by
  refine Met.ofW (cc := cX7_isOne) (maxL := 1) (ret := (some .boolean)) (by decide) rfl ?_
  intro p e s m args below meth c s₁ B hml hv
  obtain ⟨hav, hP, hK⟩ := hv
  have hx := B.exec
  have hb := B.bytes
  have hr := B.returns
  have hts := atoms_spec (ws := wsX7_isOne) B.pre
  have hown : s.vm.findClass RX7 = some m.cls := findClass_of_methodNamed B.named
  have hlocks := B.notSynchronized
  have hcf : CallFix p m c cX7_isOne 1 s args wsX7_isOne RX7 := ⟨hx, hb, hml, hown, hts⟩
  have kc_49 := hts (.constantLong RX7 49 (3)) (List.mem_of_getElem? (i := 1) rfl)
  have hg : entryFrame m args 1 = entryFrame m ([.int x0] : List Value).toArray 1 := by rw [hav]
  rw [hg, lg_entry_eq]
  have hl := lv_entry ([.int x0]) (n := 1) (Nat.le_of_ble_eq_true rfl)
  generalize (lg_sl ([.int x0]) ++ List.replicate (1 - (lg_sl ([.int x0])).length) Slot.unset).toArray = ls at hl ⊢
  have hl : lv_has ls 1 [(0, .int x0)] := hl
  clear hg
  unfold fX7_isOne at hd
  refine lv_iload_n hx hb dX7_isOne_0 rfl (lv_at hl 0 rfl) ?_
  refine lv_i2l hx hb dX7_isOne_1 rfl ?_
  refine lv_lconst (v := 0) hx hb dX7_isOne_2 rfl ?_
  refine lv_ldc2 hx hb hown kc_49 dX7_isOne_3 ?_
  refine rx_roi hd (fun v hv => W.runS (As := [.long (Int32.toInt64 x0), .long (0 : Int64), .long (3 : Int64)]) (rest := []) hcf (c_X7_in l dC dI cI cJ cQ fu    (Int32.toInt64 x0) (0 : Int64) (3 : Int64) v hv) (va_cwS 3 hts gX7_isOne_X7_in rfl rfl rfl cd_X7_in ⟨(Nat.le_of_ble_eq_true rfl), (Nat.le_of_ble_eq_true rfl)⟩) (cq_R_S hK hP [] rfl) rfl rfl hl.1 rfl (lv_room (Nat.le_of_ble_eq_true rfl)) dX7_isOne_6 ⟨Nat.le_refl _, Nat.le_refl _⟩) (fun u6 hd => ?_)
  exact rx_retRz hx hb hr hlocks hd dX7_isOne_9
theorem fiX7_sheet_X7 : ∀ w ∈ wsX70, w ∈ wsX7_sheet := mem_r _ [19, 20, 21, 22, 23, 24, 25, 26, 27, 28, 29, 30, 31, 32, 33, 34, 35, 36] rfl
set_option maxHeartbeats 8000000 in
set_option maxRecDepth 100000 in
theorem c_X7_sheet (l : Launch) (dC : Nat → ClassId) (dI : Nat → Nat → Nat) (cI cJ cQ : ClassId) (fu : Nat) (a_m : Nat → Nat) (sz : Nat) (s_m : MS) (x1 : Int32) (x2 : Int32) (x3 : Int32) (r : Int32 × MS) (hd : fX7_sheet fu  s_m x1 x2 x3 = some r) : mUi l yX7_sheet wsX7_sheet (gRm 2 45) [.ref (a_m 0), .int x1, .int x2, .int x3] (dC, dI) vwCl (gty cI cJ cQ) (wM cI cJ a_m s_m) sz (fun u : MS => (wM cI cJ a_m u)) r := by
  refine Met.ofW (cc := cX7_sheet) (maxL := 5) (ret := (some .int)) (by decide) rfl ?_
  intro p e s m args below meth c s₁ B hml hv
  obtain ⟨hav, hsz, hP, hK, hD0⟩ := hv
  subst hsz
  have hD := hD0.self (sz := s.heap.size)
  generalize hAe : va_A (wM cI cJ a_m s_m) s.heap.size = A at hD ⊢
  have hA : ∀ q : Nat, s.heap.size ≤ q → A q := fun q h => by rw [← hAe]; exact Or.inr h
  have hS : va_S A s.heap s.heap [] := va_S.rf
  have hx := B.exec
  have hb := B.bytes
  have hr := B.returns
  have hts := atoms_spec (ws := wsX7_sheet) B.pre
  have hown : s.vm.findClass RX7 = some m.cls := findClass_of_methodNamed B.named
  have hlocks := B.notSynchronized
  have hcf : CallFix p m c cX7_sheet 5 s args wsX7_sheet RX7 := ⟨hx, hb, hml, hown, hts⟩
  have fl_31 := hts (.fieldLink RX7 31 "BucketGiftModel" "bitsOf" "[I") (List.mem_of_getElem? (i := 3) rfl)
  have fl_34 := hts (.fieldLink RX7 34 "BucketGiftModel" "sizeOf" "[I") (List.mem_of_getElem? (i := 4) rfl)
  have fl_37 := hts (.fieldLink RX7 37 "BucketGiftModel" "numbers" "[J") (List.mem_of_getElem? (i := 5) rfl)
  have kc_48 := hts (.constant RX7 48 (-1000000001)) (List.mem_of_getElem? (i := 1) rfl)
  have kc_278 := hts (.constant RX7 278 (-1000000007)) (List.mem_of_getElem? (i := 2) rfl)
  have hg : entryFrame m args 5 = entryFrame m ([.ref (a_m 0), .int x1, .int x2, .int x3] : List Value).toArray 5 := by rw [hav]
  rw [hg, lg_entry_eq]
  have hl := lv_entry ([.ref (a_m 0), .int x1, .int x2, .int x3]) (n := 5) (Nat.le_of_ble_eq_true rfl)
  generalize (lg_sl ([.ref (a_m 0), .int x1, .int x2, .int x3]) ++ List.replicate (5 - (lg_sl ([.ref (a_m 0), .int x1, .int x2, .int x3])).length) Slot.unset).toArray = ls at hl ⊢
  have hl : lv_has ls 5 [(0, .ref (a_m 0)), (1, .int x1), (2, .int x2), (3, .int x3)] := hl
  clear hg
  unfold fX7_sheet at hd
  have b29 : ∀ (s_m : MS), fX7_sheet_b29 fu    s_m = some r → bk_U p l e (headSpec wsX7_sheet (gRm 2 45)).room s m args below meth c (qUi below args s (dC, dI) vwCl (gty cI cJ cQ) A (fun u : MS => (wM cI cJ a_m u)) r) (dC, dI) vwCl A 5 (wM cI cJ a_m s_m) 29 [(0, .ref (a_m 0))] [] := by
    intro s_m hd
    intro H locs ls hP hD hS hl
    unfold fX7_sheet_b29 at hd
    refine lv_aload_n hx hb dX7_sheet_29 rfl (lv_at hl 0 rfl) ?_
    refine lv_ldc hx hb hown kc_48 dX7_sheet_30 ?_
    refine rx_upi1 hd hD hS hA (fun v hv => va_runV (As := [.int (-1000000001 : Int32)]) (rest := []) hcf (c_X7_finds l dC dI cI cJ cQ fu a_m _  s_m (-1000000001 : Int32) v hv) (cwV 1 hts gX7_sheet_X7_finds rfl rfl rfl cd_X7_finds ⟨(Nat.le_of_ble_eq_true rfl), (Nat.le_of_ble_eq_true rfl)⟩) (cq_U_V1 (q0 := 0) (ci := 6) hK hP hD rfl rfl) rfl rfl hl.1 rfl (lv_room (Nat.le_of_ble_eq_true rfl)) dX7_sheet_32 ⟨Nat.le_refl _, Nat.le_refl _⟩) (fun u32 hd H locs hP hD hS => ?_)
    exact rx_retUi (u := u32.2) (w1 := (fun u : MS => (wM cI cJ a_m u))) hx hb hr hlocks hd hK hP hD hS dX7_sheet_35
  have b86 : ∀ (x1 : Int32) (s_m : MS) (x4 : Int32), fX7_sheet_b86 fu    x1 s_m x4 = some r → bk_U p l e (headSpec wsX7_sheet (gRm 2 45)).room s m args below meth c (qUi below args s (dC, dI) vwCl (gty cI cJ cQ) A (fun u : MS => (wM cI cJ a_m u)) r) (dC, dI) vwCl A 5 (wM cI cJ a_m s_m) 86 [(0, .ref (a_m 0)), (1, .int x1), (4, .int x4)] [] := by
    intro x1
    have L : ∀ (n : Nat) (s_m : MS) (x4 : Int32), g_lp (fun _ _ => none) (fX7_sheet_b86B fu    x1) n s_m x4 = some r → bk_U p l e (headSpec wsX7_sheet (gRm 2 45)).room s m args below meth c (qUi below args s (dC, dI) vwCl (gty cI cJ cQ) A (fun u : MS => (wM cI cJ a_m u)) r) (dC, dI) vwCl A 5 (wM cI cJ a_m s_m) 86 [(0, .ref (a_m 0)), (1, .int x1), (4, .int x4)] [] := by
      intro n
      induction n with
      | zero => intro s_m x4 hd; exact absurd hd (by intro h; cases h)
      | succ n k86 =>
        intro s_m x4 hd
        intro H locs ls hP hD hS hl
        have hd : fX7_sheet_b86B fu    x1 (g_lp (fun _ _ => none) (fX7_sheet_b86B fu    x1) n) s_m x4 = some r := hd
        unfold fX7_sheet_b86B at hd
        refine lv_iload hx hb dX7_sheet_86 (lv_at hl 2 rfl) ?_
        refine lv_bipush (v := 40) hx hb dX7_sheet_88 kb_40 ?_
        refine rx_icmp_ge hx hb 112 dX7_sheet_90 rfl hd (fun hd => ?_) (fun hd => ?_)
        · refine lv_aload_n hx hb dX7_sheet_112 rfl (lv_at hl 0 rfl) ?_
          refine rx_get hx hb hts fiX7_sheet_X7 hown hK hP 0 rfl rfl 15 (Nat.le_of_ble_eq_true rfl) fl_34 rfl rfl dX7_sheet_113 ?_
          refine lv_iload_n hx hb dX7_sheet_116 rfl (lv_at hl 1 rfl) ?_
          refine rx_iald hx hb hK hP 9 0 rfl rfl hd dX7_sheet_117 (fun v117 hd => ?_)
          exact rx_retUi (u := s_m) (w1 := (fun u : MS => (wM cI cJ a_m u))) hx hb hr hlocks hd hK hP hD hS dX7_sheet_118
        refine lv_aload_n hx hb dX7_sheet_93 rfl (lv_at hl 0 rfl) ?_
        refine rx_get hx hb hts fiX7_sheet_X7 hown hK hP 0 rfl rfl 16 (Nat.le_of_ble_eq_true rfl) fl_37 rfl rfl dX7_sheet_94 ?_
        refine lv_bipush (v := 40) hx hb dX7_sheet_97 kb_40 ?_
        refine lv_iload_n hx hb dX7_sheet_99 rfl (lv_at hl 1 rfl) ?_
        refine lv_imul hx hb dX7_sheet_100 ?_
        refine lv_iload hx hb dX7_sheet_101 (lv_at hl 2 rfl) ?_
        refine lv_iadd hx hb dX7_sheet_103 ?_
        refine lv_lconst (v := 0) hx hb dX7_sheet_104 rfl ?_
        refine rx_last (wM cI cJ a_m (muNumbers s_m (Int32.toNatClampNeg (((40 : Int32) * x1) + x4)) (0 : Int64))) hx hb hK hP hD hS 10 1 rfl rfl hd (wM_uNumbers ..) dX7_sheet_105 (fun hd H locs hP hD hS => ?_)
        refine rx_iinc (lv' := fun z => (4, .int z) :: [(0, .ref (a_m 0)), (1, .int x1)]) hx hb (j := 2) dX7_sheet_106 hl rfl ki_1 hd (Nat.le_of_ble_eq_true rfl) (fun _ => rfl) (fun x4_106 hd ls hl => ?_)
        refine lv_goto (tgt := 86) hx hb dX7_sheet_109 rfl ?_
        exact k86 (muNumbers s_m (Int32.toNatClampNeg (((40 : Int32) * x1) + x4)) (0 : Int64)) x4_106 hd _ _ _ hP hD hS (lv_sub hl [1, 2, 0] rfl)
    exact fun s_m x4 => L fu s_m x4
  have b82 : ∀ (s_m : MS) (x1 : Int32) (y0 : Int32) (y1 : Int32), fX7_sheet_b82 fu    s_m x1 y0 y1 = some r → bk_U p l e (headSpec wsX7_sheet (gRm 2 45)).room s m args below meth c (qUi below args s (dC, dI) vwCl (gty cI cJ cQ) A (fun u : MS => (wM cI cJ a_m u)) r) (dC, dI) vwCl A 5 (wM cI cJ a_m s_m) 82 [(0, .ref (a_m 0)), (1, .int x1)] [.int y0, .int y1, .ref (a_m 9)] := by
    intro s_m x1 y0 y1 hd
    intro H locs ls hP hD hS hl
    unfold fX7_sheet_b82 at hd
    refine rx_iast (wM cI cJ a_m (muSizeOf s_m (Int32.toNatClampNeg y1) y0)) hx hb hK hP hD hS 9 0 rfl rfl hd (wM_uSizeOf ..) dX7_sheet_82 (fun hd H locs hP hD hS => ?_)
    refine lv_iconst (v := 0) hx hb dX7_sheet_83 ki_0 ?_
    refine lv_istore (lv' := [(4, .int (0 : Int32)), (0, .ref (a_m 0)), (1, .int x1)]) hx hb dX7_sheet_84 hl (Nat.le_of_ble_eq_true rfl) rfl (fun ls hl => ?_)
    exact b86   x1 (muSizeOf s_m (Int32.toNatClampNeg y1) y0) (0 : Int32) hd _ _ _ hP hD hS (lv_sub hl [1, 2, 0] rfl)
  have b36 : ∀ (s_m : MS) (x1 : Int32) (x2 : Int32) (x3 : Int32), fX7_sheet_b36 fu    s_m x1 x2 x3 = some r → bk_U p l e (headSpec wsX7_sheet (gRm 2 45)).room s m args below meth c (qUi below args s (dC, dI) vwCl (gty cI cJ cQ) A (fun u : MS => (wM cI cJ a_m u)) r) (dC, dI) vwCl A 5 (wM cI cJ a_m s_m) 36 [(0, .ref (a_m 0)), (1, .int x1), (2, .int x2), (3, .int x3)] [] := by
    intro s_m x1 x2 x3 hd
    intro H locs ls hP hD hS hl
    unfold fX7_sheet_b36 at hd
    refine lv_iload_n hx hb dX7_sheet_36 rfl (lv_at hl 3 rfl) ?_
    refine rx_if_ge hx hb 48 dX7_sheet_37 rfl hd (fun hd => ?_) (fun hd => ?_)
    · refine lv_iload_n hx hb dX7_sheet_48 rfl (lv_at hl 3 rfl) ?_
      refine lv_bipush (v := 40) hx hb dX7_sheet_49 kb_40 ?_
      refine rx_icmp_le hx hb 61 dX7_sheet_51 rfl hd (fun hd => ?_) (fun hd => ?_)
      · refine lv_aload_n hx hb dX7_sheet_61 rfl (lv_at hl 0 rfl) ?_
        refine rx_get hx hb hts fiX7_sheet_X7 hown hK hP 0 rfl rfl 14 (Nat.le_of_ble_eq_true rfl) fl_31 rfl rfl dX7_sheet_62 ?_
        refine lv_iload_n hx hb dX7_sheet_65 rfl (lv_at hl 1 rfl) ?_
        refine lv_iload_n hx hb dX7_sheet_66 rfl (lv_at hl 2 rfl) ?_
        refine rx_iast (wM cI cJ a_m (muBitsOf s_m (Int32.toNatClampNeg x1) x2)) hx hb hK hP hD hS 8 0 rfl rfl hd (wM_uBitsOf ..) dX7_sheet_67 (fun hd H locs hP hD hS => ?_)
        refine lv_aload_n hx hb dX7_sheet_68 rfl (lv_at hl 0 rfl) ?_
        refine rx_get hx hb hts fiX7_sheet_X7 hown hK hP 0 rfl rfl 15 (Nat.le_of_ble_eq_true rfl) fl_34 rfl rfl dX7_sheet_69 ?_
        refine lv_iload_n hx hb dX7_sheet_72 rfl (lv_at hl 1 rfl) ?_
        refine lv_iload_n hx hb dX7_sheet_73 rfl (lv_at hl 2 rfl) ?_
        refine rx_if_ne hx hb 81 dX7_sheet_74 rfl hd (fun hd => ?_) (fun hd => ?_)
        · refine lv_iload_n hx hb dX7_sheet_81 rfl (lv_at hl 3 rfl) ?_
          exact b82   (muBitsOf s_m (Int32.toNatClampNeg x1) x2) x1 x3 x1 hd _ _ _ hP hD hS (lv_sub hl [0, 1] rfl)
        refine lv_iconst (v := 0) hx hb dX7_sheet_77 ki_0 ?_
        refine lv_goto (tgt := 82) hx hb dX7_sheet_78 rfl ?_
        exact b82   (muBitsOf s_m (Int32.toNatClampNeg x1) x2) x1 (0 : Int32) x1 hd _ _ _ hP hD hS (lv_sub hl [0, 1] rfl)
      refine lv_aload_n hx hb dX7_sheet_54 rfl (lv_at hl 0 rfl) ?_
      refine lv_ldc hx hb hown kc_48 dX7_sheet_55 ?_
      refine rx_upi1 hd hD hS hA (fun v hv => va_runV (As := [.int (-1000000001 : Int32)]) (rest := []) hcf (c_X7_finds l dC dI cI cJ cQ fu a_m _  s_m (-1000000001 : Int32) v hv) (cwV 1 hts gX7_sheet_X7_finds rfl rfl rfl cd_X7_finds ⟨(Nat.le_of_ble_eq_true rfl), (Nat.le_of_ble_eq_true rfl)⟩) (cq_U_V1 (q0 := 0) (ci := 6) hK hP hD rfl rfl) rfl rfl hl.1 rfl (lv_room (Nat.le_of_ble_eq_true rfl)) dX7_sheet_57 ⟨Nat.le_refl _, Nat.le_refl _⟩) (fun u57 hd H locs hP hD hS => ?_)
      exact rx_retUi (u := u57.2) (w1 := (fun u : MS => (wM cI cJ a_m u))) hx hb hr hlocks hd hK hP hD hS dX7_sheet_60
    refine lv_aload_n hx hb dX7_sheet_40 rfl (lv_at hl 0 rfl) ?_
    refine lv_ldcw hx hb hown kc_278 dX7_sheet_41 ?_
    refine rx_upi1 hd hD hS hA (fun v hv => va_runV (As := [.int (-1000000007 : Int32)]) (rest := []) hcf (c_X7_finds l dC dI cI cJ cQ fu a_m _  s_m (-1000000007 : Int32) v hv) (cwV 1 hts gX7_sheet_X7_finds rfl rfl rfl cd_X7_finds ⟨(Nat.le_of_ble_eq_true rfl), (Nat.le_of_ble_eq_true rfl)⟩) (cq_U_V1 (q0 := 0) (ci := 6) hK hP hD rfl rfl) rfl rfl hl.1 rfl (lv_room (Nat.le_of_ble_eq_true rfl)) dX7_sheet_44 ⟨Nat.le_refl _, Nat.le_refl _⟩) (fun u44 hd H locs hP hD hS => ?_)
    exact rx_retUi (u := u44.2) (w1 := (fun u : MS => (wM cI cJ a_m u))) hx hb hr hlocks hd hK hP hD hS dX7_sheet_47
  refine lv_iload_n hx hb dX7_sheet_0 rfl (lv_at hl 1 rfl) ?_
  refine rx_roi hd (fun v hv => W.runS (As := [.int x1]) (rest := []) hcf (c_X7_isOne l dC dI cI cJ cQ fu    x1 v hv) (va_cwS 1 hts gX7_sheet_X7_isOne rfl rfl rfl cd_X7_isOne ⟨(Nat.le_of_ble_eq_true rfl), (Nat.le_of_ble_eq_true rfl)⟩) (cq_R_S hK hP [] rfl) rfl rfl hl.1 rfl (lv_room (Nat.le_of_ble_eq_true rfl)) dX7_sheet_1 ⟨Nat.le_refl _, Nat.le_refl _⟩) (fun u1 hd => ?_)
  refine rx_if_eq hx hb 29 dX7_sheet_4 rfl hd (fun hd => ?_) (fun hd => ?_)
  · exact b29   s_m hd _ _ _ hP hD hS (lv_sub hl [0] rfl)
  refine lv_iload_n hx hb dX7_sheet_7 rfl (lv_at hl 2 rfl) ?_
  refine rx_if_eq hx hb 36 dX7_sheet_8 rfl hd (fun hd => ?_) (fun hd => ?_)
  · exact b36   s_m x1 x2 x3 hd _ _ _ hP hD hS (lv_sub hl [0, 1, 2, 3] rfl)
  refine lv_iload_n hx hb dX7_sheet_11 rfl (lv_at hl 2 rfl) ?_
  refine lv_bipush (v := 8) hx hb dX7_sheet_12 kb_8 ?_
  refine rx_icmp_eq hx hb 36 dX7_sheet_14 rfl hd (fun hd => ?_) (fun hd => ?_)
  · exact b36   s_m x1 x2 x3 hd _ _ _ hP hD hS (lv_sub hl [0, 1, 2, 3] rfl)
  refine lv_iload_n hx hb dX7_sheet_17 rfl (lv_at hl 2 rfl) ?_
  refine lv_bipush (v := 16) hx hb dX7_sheet_18 kb_16 ?_
  refine rx_icmp_eq hx hb 36 dX7_sheet_20 rfl hd (fun hd => ?_) (fun hd => ?_)
  · exact b36   s_m x1 x2 x3 hd _ _ _ hP hD hS (lv_sub hl [0, 1, 2, 3] rfl)
  refine lv_iload_n hx hb dX7_sheet_23 rfl (lv_at hl 2 rfl) ?_
  refine lv_bipush (v := 64) hx hb dX7_sheet_24 kb_64 ?_
  refine rx_icmp_eq hx hb 36 dX7_sheet_26 rfl hd (fun hd => ?_) (fun hd => ?_)
  · exact b36   s_m x1 x2 x3 hd _ _ _ hP hD hS (lv_sub hl [0, 1, 2, 3] rfl)
  exact b29   s_m hd _ _ _ hP hD hS (lv_sub hl [0] rfl)
set_option maxHeartbeats 8000000 in
set_option maxRecDepth 100000 in
theorem c_X7_narrowed (l : Launch) (dC : Nat → ClassId) (dI : Nat → Nat → Nat) (cI cJ cQ : ClassId) (fu : Nat)   (x0 : Int32) (x1 : Int64) (r : Int64) (hd : fX7_narrowed fu   x0 x1 = some r) : mRl l yX7_narrowed wsX7_narrowed (gRm 0 0) [.int x0, .long x1] (cq_R (dC, dI) vwCl (gty cI cJ cQ) ([] : va_W)) r := by
  refine Met.ofW (cc := cX7_narrowed) (maxL := 3) (ret := (some .long)) (by decide) rfl ?_
  intro p e s m args below meth c s₁ B hml hv
  obtain ⟨hav, hP, hK⟩ := hv
  have hx := B.exec
  have hb := B.bytes
  have hr := B.returns
  have hts := atoms_spec (ws := wsX7_narrowed) B.pre
  have hown : s.vm.findClass RX7 = some m.cls := findClass_of_methodNamed B.named
  have hlocks := B.notSynchronized
  have hcf : CallFix p m c cX7_narrowed 3 s args wsX7_narrowed RX7 := ⟨hx, hb, hml, hown, hts⟩
  have hg : entryFrame m args 3 = entryFrame m ([.int x0, .long x1] : List Value).toArray 3 := by rw [hav]
  rw [hg, lg_entry_eq]
  have hl := lv_entry ([.int x0, .long x1]) (n := 3) (Nat.le_of_ble_eq_true rfl)
  generalize (lg_sl ([.int x0, .long x1]) ++ List.replicate (3 - (lg_sl ([.int x0, .long x1])).length) Slot.unset).toArray = ls at hl ⊢
  have hl : lv_has ls 3 [(0, .int x0), (1, .long x1)] := hl
  clear hg
  unfold fX7_narrowed at hd
  refine lv_iload_n hx hb dX7_narrowed_0 rfl (lv_at hl 0 rfl) ?_
  refine lv_bipush (v := 8) hx hb dX7_narrowed_1 kb_8 ?_
  refine rx_icmp_ne hx hb 13 dX7_narrowed_3 rfl hd (fun hd => ?_) (fun hd => ?_)
  · refine lv_iload_n hx hb dX7_narrowed_13 rfl (lv_at hl 0 rfl) ?_
    refine lv_bipush (v := 16) hx hb dX7_narrowed_14 kb_16 ?_
    refine rx_icmp_ne hx hb 26 dX7_narrowed_16 rfl hd (fun hd => ?_) (fun hd => ?_)
    · refine lv_lload_n hx hb dX7_narrowed_26 rfl (lv_at hl 1 rfl) ?_
      exact rx_retRl hx hb hr hlocks hd dX7_narrowed_27
    refine lv_lload_n hx hb dX7_narrowed_19 rfl (lv_at hl 1 rfl) ?_
    refine lv_l2i hx hb dX7_narrowed_20 rfl ?_
    refine lv_i2s hx hb dX7_narrowed_21 rfl ?_
    refine lv_i2l hx hb dX7_narrowed_22 rfl ?_
    refine lv_goto (tgt := 27) hx hb dX7_narrowed_23 rfl ?_
    exact rx_retRl hx hb hr hlocks hd dX7_narrowed_27
  refine lv_lload_n hx hb dX7_narrowed_6 rfl (lv_at hl 1 rfl) ?_
  refine lv_l2i hx hb dX7_narrowed_7 rfl ?_
  refine lv_i2b hx hb dX7_narrowed_8 rfl ?_
  refine lv_i2l hx hb dX7_narrowed_9 rfl ?_
  refine lv_goto (tgt := 27) hx hb dX7_narrowed_10 rfl ?_
  exact rx_retRl hx hb hr hlocks hd dX7_narrowed_27
theorem fiX7_wrongSheet_X7 : ∀ w ∈ wsX70, w ∈ wsX7_wrongSheet := mem_r _ [12, 13, 14, 15, 16, 17, 18, 19, 20, 21, 22, 23, 24, 25, 26, 27, 28, 29] rfl
set_option maxHeartbeats 8000000 in
set_option maxRecDepth 100000 in
theorem c_X7_wrongSheet (l : Launch) (dC : Nat → ClassId) (dI : Nat → Nat → Nat) (cI cJ cQ : ClassId) (fu : Nat) (a_m : Nat → Nat) (s_m : MS) (x1 : Int32) (r : Int32) (hd : fX7_wrongSheet fu  s_m x1 = some r) : mRi l yX7_wrongSheet wsX7_wrongSheet (gRm 2 45) [.ref (a_m 0), .int x1] (cq_R (dC, dI) vwCl (gty cI cJ cQ) (wM cI cJ a_m s_m)) r := by
  refine Met.ofW (cc := cX7_wrongSheet) (maxL := 2) (ret := (some .int)) (by decide) rfl ?_
  intro p e s m args below meth c s₁ B hml hv
  obtain ⟨hav, hP, hK⟩ := hv
  have hx := B.exec
  have hb := B.bytes
  have hr := B.returns
  have hts := atoms_spec (ws := wsX7_wrongSheet) B.pre
  have hown : s.vm.findClass RX7 = some m.cls := findClass_of_methodNamed B.named
  have hlocks := B.notSynchronized
  have hcf : CallFix p m c cX7_wrongSheet 2 s args wsX7_wrongSheet RX7 := ⟨hx, hb, hml, hown, hts⟩
  have fl_31 := hts (.fieldLink RX7 31 "BucketGiftModel" "bitsOf" "[I") (List.mem_of_getElem? (i := 2) rfl)
  have kc_279 := hts (.constant RX7 279 (-1000000006)) (List.mem_of_getElem? (i := 3) rfl)
  have kc_48 := hts (.constant RX7 48 (-1000000001)) (List.mem_of_getElem? (i := 1) rfl)
  have hg : entryFrame m args 2 = entryFrame m ([.ref (a_m 0), .int x1] : List Value).toArray 2 := by rw [hav]
  rw [hg, lg_entry_eq]
  have hl := lv_entry ([.ref (a_m 0), .int x1]) (n := 2) (Nat.le_of_ble_eq_true rfl)
  generalize (lg_sl ([.ref (a_m 0), .int x1]) ++ List.replicate (2 - (lg_sl ([.ref (a_m 0), .int x1])).length) Slot.unset).toArray = ls at hl ⊢
  have hl : lv_has ls 2 [(0, .ref (a_m 0)), (1, .int x1)] := hl
  clear hg
  unfold fX7_wrongSheet at hd
  refine lv_iload_n hx hb dX7_wrongSheet_0 rfl (lv_at hl 1 rfl) ?_
  refine rx_roi hd (fun v hv => W.runS (As := [.int x1]) (rest := []) hcf (c_X7_isOne l dC dI cI cJ cQ fu    x1 v hv) (va_cwS 1 hts gX7_wrongSheet_X7_isOne rfl rfl rfl cd_X7_isOne ⟨(Nat.le_of_ble_eq_true rfl), (Nat.le_of_ble_eq_true rfl)⟩) (cq_R_S hK hP [] rfl) rfl rfl hl.1 rfl (lv_room (Nat.le_of_ble_eq_true rfl)) dX7_wrongSheet_1 ⟨Nat.le_refl _, Nat.le_refl _⟩) (fun u1 hd => ?_)
  refine rx_if_ne hx hb 12 dX7_wrongSheet_4 rfl hd (fun hd => ?_) (fun hd => ?_)
  · refine lv_aload_n hx hb dX7_wrongSheet_12 rfl (lv_at hl 0 rfl) ?_
    refine rx_get hx hb hts fiX7_wrongSheet_X7 hown hK hP 0 rfl rfl 14 (Nat.le_of_ble_eq_true rfl) fl_31 rfl rfl dX7_wrongSheet_13 ?_
    refine lv_iload_n hx hb dX7_wrongSheet_16 rfl (lv_at hl 1 rfl) ?_
    refine rx_iald hx hb hK hP 8 0 rfl rfl hd dX7_wrongSheet_17 (fun v17 hd => ?_)
    refine rx_if_ne hx hb 27 dX7_wrongSheet_18 rfl hd (fun hd => ?_) (fun hd => ?_)
    · refine lv_iconst (v := 0) hx hb dX7_wrongSheet_27 ki_0 ?_
      exact rx_retRi hx hb hr hlocks hd dX7_wrongSheet_28
    refine lv_ldcw hx hb hown kc_279 dX7_wrongSheet_21 ?_
    refine lv_goto (tgt := 28) hx hb dX7_wrongSheet_24 rfl ?_
    exact rx_retRi hx hb hr hlocks hd dX7_wrongSheet_28
  refine lv_ldc hx hb hown kc_48 dX7_wrongSheet_7 ?_
  refine lv_goto (tgt := 28) hx hb dX7_wrongSheet_9 rfl ?_
  exact rx_retRi hx hb hr hlocks hd dX7_wrongSheet_28
theorem fiX7_write_X7 : ∀ w ∈ wsX70, w ∈ wsX7_write := mem_r _ [26, 27, 28, 29, 30, 31, 32, 33, 34, 35, 36, 37, 38, 39, 40, 41, 42, 43] rfl
set_option maxHeartbeats 8000000 in
set_option maxRecDepth 100000 in
theorem c_X7_write (l : Launch) (dC : Nat → ClassId) (dI : Nat → Nat → Nat) (cI cJ cQ : ClassId) (fu : Nat) (a_m : Nat → Nat) (sz : Nat) (s_m : MS) (x1 : Int32) (x2 : Int32) (x3 : Int64) (r : Int64 × MS) (hd : fX7_write fu  s_m x1 x2 x3 = some r) : mUl l yX7_write wsX7_write (gRm 3 66) [.ref (a_m 0), .int x1, .int x2, .long x3] (dC, dI) vwCl (gty cI cJ cQ) (wM cI cJ a_m s_m) sz (fun u : MS => (wM cI cJ a_m u)) r := by
  refine Met.ofW (cc := cX7_write) (maxL := 8) (ret := (some .long)) (by decide) rfl ?_
  intro p e s m args below meth c s₁ B hml hv
  obtain ⟨hav, hsz, hP, hK, hD0⟩ := hv
  subst hsz
  have hD := hD0.self (sz := s.heap.size)
  generalize hAe : va_A (wM cI cJ a_m s_m) s.heap.size = A at hD ⊢
  have hA : ∀ q : Nat, s.heap.size ≤ q → A q := fun q h => by rw [← hAe]; exact Or.inr h
  have hS : va_S A s.heap s.heap [] := va_S.rf
  have hx := B.exec
  have hb := B.bytes
  have hr := B.returns
  have hts := atoms_spec (ws := wsX7_write) B.pre
  have hown : s.vm.findClass RX7 = some m.cls := findClass_of_methodNamed B.named
  have hlocks := B.notSynchronized
  have hcf : CallFix p m c cX7_write 8 s args wsX7_write RX7 := ⟨hx, hb, hml, hown, hts⟩
  have fl_34 := hts (.fieldLink RX7 34 "BucketGiftModel" "sizeOf" "[I") (List.mem_of_getElem? (i := 1) rfl)
  have fl_37 := hts (.fieldLink RX7 37 "BucketGiftModel" "numbers" "[J") (List.mem_of_getElem? (i := 3) rfl)
  have fl_31 := hts (.fieldLink RX7 31 "BucketGiftModel" "bitsOf" "[I") (List.mem_of_getElem? (i := 4) rfl)
  have kc_48 := hts (.constant RX7 48 (-1000000001)) (List.mem_of_getElem? (i := 2) rfl)
  have hg : entryFrame m args 8 = entryFrame m ([.ref (a_m 0), .int x1, .int x2, .long x3] : List Value).toArray 8 := by rw [hav]
  rw [hg, lg_entry_eq]
  have hl := lv_entry ([.ref (a_m 0), .int x1, .int x2, .long x3]) (n := 8) (Nat.le_of_ble_eq_true rfl)
  generalize (lg_sl ([.ref (a_m 0), .int x1, .int x2, .long x3]) ++ List.replicate (8 - (lg_sl ([.ref (a_m 0), .int x1, .int x2, .long x3])).length) Slot.unset).toArray = ls at hl ⊢
  have hl : lv_has ls 8 [(0, .ref (a_m 0)), (1, .int x1), (2, .int x2), (3, .long x3)] := hl
  clear hg
  unfold fX7_write at hd
  refine lv_aload_n hx hb dX7_write_0 rfl (lv_at hl 0 rfl) ?_
  refine lv_iload_n hx hb dX7_write_1 rfl (lv_at hl 1 rfl) ?_
  refine rx_roi hd (fun v hv => W.runV (As := [.int x1]) (rest := []) hcf (c_X7_wrongSheet l dC dI cI cJ cQ fu a_m  s_m x1 v hv) (cwV 1 hts gX7_write_X7_wrongSheet rfl rfl rfl cd_X7_wrongSheet ⟨(Nat.le_of_ble_eq_true rfl), (Nat.le_of_ble_eq_true rfl)⟩) (cq_R_V1 (q0 := 0) (ci := 6) hK hP rfl rfl) rfl rfl hl.1 rfl (lv_room (Nat.le_of_ble_eq_true rfl)) dX7_write_2 ⟨Nat.le_refl _, Nat.le_refl _⟩) (fun u2 hd => ?_)
  refine lv_istore (lv' := [(5, .int u2), (0, .ref (a_m 0)), (1, .int x1), (2, .int x2), (3, .long x3)]) hx hb dX7_write_5 hl (Nat.le_of_ble_eq_true rfl) rfl (fun ls hl => ?_)
  refine lv_iload hx hb dX7_write_7 (lv_at hl 0 rfl) ?_
  refine rx_if_eq hx hb 20 dX7_write_9 rfl hd (fun hd => ?_) (fun hd => ?_)
  · refine lv_iload_n hx hb dX7_write_20 rfl (lv_at hl 3 rfl) ?_
    refine lv_i2l hx hb dX7_write_21 rfl ?_
    refine lv_lconst (v := 0) hx hb dX7_write_22 rfl ?_
    refine lv_aload_n hx hb dX7_write_23 rfl (lv_at hl 1 rfl) ?_
    refine rx_get hx hb hts fiX7_write_X7 hown hK hP 0 rfl rfl 15 (Nat.le_of_ble_eq_true rfl) fl_34 rfl rfl dX7_write_24 ?_
    refine lv_iload_n hx hb dX7_write_27 rfl (lv_at hl 2 rfl) ?_
    refine rx_iald hx hb hK hP 9 0 rfl rfl hd dX7_write_28 (fun v28 hd => ?_)
    refine lv_iconst (v := 1) hx hb dX7_write_29 ki_1 ?_
    refine lv_isub hx hb dX7_write_30 ?_
    refine lv_i2l hx hb dX7_write_31 rfl ?_
    refine rx_roi hd (fun v hv => W.runS (As := [.long (Int32.toInt64 x2), .long (0 : Int64), .long (Int32.toInt64 (v28 - (1 : Int32)))]) (rest := []) hcf (c_X7_in l dC dI cI cJ cQ fu    (Int32.toInt64 x2) (0 : Int64) (Int32.toInt64 (v28 - (1 : Int32))) v hv) (va_cwS 3 hts gX7_write_X7_in rfl rfl rfl cd_X7_in ⟨(Nat.le_of_ble_eq_true rfl), (Nat.le_of_ble_eq_true rfl)⟩) (cq_R_S hK hP [] rfl) rfl rfl hl.1 rfl (lv_room (Nat.le_of_ble_eq_true rfl)) dX7_write_32 ⟨Nat.le_refl _, Nat.le_refl _⟩) (fun u32 hd => ?_)
    refine rx_if_ne hx hb 46 dX7_write_35 rfl hd (fun hd => ?_) (fun hd => ?_)
    · refine lv_aload_n hx hb dX7_write_46 rfl (lv_at hl 1 rfl) ?_
      refine rx_get hx hb hts fiX7_write_X7 hown hK hP 0 rfl rfl 16 (Nat.le_of_ble_eq_true rfl) fl_37 rfl rfl dX7_write_47 ?_
      refine lv_bipush (v := 40) hx hb dX7_write_50 kb_40 ?_
      refine lv_iload_n hx hb dX7_write_52 rfl (lv_at hl 2 rfl) ?_
      refine lv_imul hx hb dX7_write_53 ?_
      refine lv_iload_n hx hb dX7_write_54 rfl (lv_at hl 3 rfl) ?_
      refine lv_iadd hx hb dX7_write_55 ?_
      refine rx_lald hx hb hK hP 10 1 rfl rfl hd dX7_write_56 (fun v56 hd => ?_)
      refine lv_lstore (lv' := [(6, .long v56), (5, .int u2), (0, .ref (a_m 0)), (1, .int x1), (2, .int x2), (3, .long x3)]) hx hb dX7_write_57 hl (Nat.le_of_ble_eq_true rfl) rfl (fun ls hl => ?_)
      refine lv_aload_n hx hb dX7_write_59 rfl (lv_at hl 2 rfl) ?_
      refine rx_get hx hb hts fiX7_write_X7 hown hK hP 0 rfl rfl 16 (Nat.le_of_ble_eq_true rfl) fl_37 rfl rfl dX7_write_60 ?_
      refine lv_bipush (v := 40) hx hb dX7_write_63 kb_40 ?_
      refine lv_iload_n hx hb dX7_write_65 rfl (lv_at hl 3 rfl) ?_
      refine lv_imul hx hb dX7_write_66 ?_
      refine lv_iload_n hx hb dX7_write_67 rfl (lv_at hl 4 rfl) ?_
      refine lv_iadd hx hb dX7_write_68 ?_
      refine lv_aload_n hx hb dX7_write_69 rfl (lv_at hl 2 rfl) ?_
      refine rx_get hx hb hts fiX7_write_X7 hown hK hP 0 rfl rfl 14 (Nat.le_of_ble_eq_true rfl) fl_31 rfl rfl dX7_write_70 ?_
      refine lv_iload_n hx hb dX7_write_73 rfl (lv_at hl 3 rfl) ?_
      refine rx_iald hx hb hK hP 8 0 rfl rfl hd dX7_write_74 (fun v74 hd => ?_)
      refine lv_lload_n hx hb dX7_write_75 rfl (lv_at hl 5 rfl) ?_
      refine rx_rol hd (fun v hv => W.runS (As := [.int v74, .long x3]) (rest := [.int (((40 : Int32) * x1) + x2), .ref (a_m 10)]) hcf (c_X7_narrowed l dC dI cI cJ cQ fu    v74 x3 v hv) (va_cwS 2 hts gX7_write_X7_narrowed rfl rfl rfl cd_X7_narrowed ⟨(Nat.le_of_ble_eq_true rfl), (Nat.le_of_ble_eq_true rfl)⟩) (cq_R_S hK hP [] rfl) rfl rfl hl.1 rfl (lv_room (Nat.le_of_ble_eq_true rfl)) dX7_write_76 ⟨Nat.le_refl _, Nat.le_refl _⟩) (fun u76 hd => ?_)
      refine rx_last (wM cI cJ a_m (muNumbers s_m (Int32.toNatClampNeg (((40 : Int32) * x1) + x2)) u76)) hx hb hK hP hD hS 10 1 rfl rfl hd (wM_uNumbers ..) dX7_write_79 (fun hd H locs hP hD hS => ?_)
      refine lv_lload hx hb dX7_write_80 (lv_at hl 0 rfl) ?_
      exact rx_retUl (u := (muNumbers s_m (Int32.toNatClampNeg (((40 : Int32) * x1) + x2)) u76)) (w1 := (fun u : MS => (wM cI cJ a_m u))) hx hb hr hlocks hd hK hP hD hS dX7_write_82
    refine lv_aload_n hx hb dX7_write_38 rfl (lv_at hl 1 rfl) ?_
    refine lv_ldc hx hb hown kc_48 dX7_write_39 ?_
    refine rx_upi1 hd hD hS hA (fun v hv => va_runV (As := [.int (-1000000001 : Int32)]) (rest := []) hcf (c_X7_finds l dC dI cI cJ cQ fu a_m _  s_m (-1000000001 : Int32) v hv) (cwV 1 hts gX7_write_X7_finds rfl rfl rfl cd_X7_finds ⟨(Nat.le_of_ble_eq_true rfl), (Nat.le_of_ble_eq_true rfl)⟩) (cq_U_V1 (q0 := 0) (ci := 6) hK hP hD rfl rfl) rfl rfl hl.1 rfl (lv_room (Nat.le_of_ble_eq_true rfl)) dX7_write_41 ⟨Nat.le_refl _, Nat.le_refl _⟩) (fun u41 hd H locs hP hD hS => ?_)
    refine lv_i2l hx hb dX7_write_44 rfl ?_
    exact rx_retUl (u := u41.2) (w1 := (fun u : MS => (wM cI cJ a_m u))) hx hb hr hlocks hd hK hP hD hS dX7_write_45
  refine lv_aload_n hx hb dX7_write_12 rfl (lv_at hl 1 rfl) ?_
  refine lv_iload hx hb dX7_write_13 (lv_at hl 0 rfl) ?_
  refine rx_upi1 hd hD hS hA (fun v hv => va_runV (As := [.int u2]) (rest := []) hcf (c_X7_finds l dC dI cI cJ cQ fu a_m _  s_m u2 v hv) (cwV 1 hts gX7_write_X7_finds rfl rfl rfl cd_X7_finds ⟨(Nat.le_of_ble_eq_true rfl), (Nat.le_of_ble_eq_true rfl)⟩) (cq_U_V1 (q0 := 0) (ci := 6) hK hP hD rfl rfl) rfl rfl hl.1 rfl (lv_room (Nat.le_of_ble_eq_true rfl)) dX7_write_15 ⟨Nat.le_refl _, Nat.le_refl _⟩) (fun u15 hd H locs hP hD hS => ?_)
  refine lv_i2l hx hb dX7_write_18 rfl ?_
  exact rx_retUl (u := u15.2) (w1 := (fun u : MS => (wM cI cJ a_m u))) hx hb hr hlocks hd hK hP hD hS dX7_write_19
theorem fiX7_copy_X7 : ∀ w ∈ wsX70, w ∈ wsX7_copy := mem_r _ [21, 22, 23, 24, 25, 26, 27, 28, 29, 30, 31, 32, 33, 34, 35, 36, 37, 38] rfl
set_option maxHeartbeats 8000000 in
set_option maxRecDepth 100000 in
theorem c_X7_copy (l : Launch) (dC : Nat → ClassId) (dI : Nat → Nat → Nat) (cI cJ cQ : ClassId) (fu : Nat) (a_m : Nat → Nat) (sz : Nat) (s_m : MS) (x1 : Int32) (x2 : Int32) (x3 : Int32) (x4 : Int32) (x5 : Int32) (r : Int32 × MS) (hd : fX7_copy fu  s_m x1 x2 x3 x4 x5 = some r) : mUi l yX7_copy wsX7_copy (gRm 2 45) [.ref (a_m 0), .int x1, .int x2, .int x3, .int x4, .int x5] (dC, dI) vwCl (gty cI cJ cQ) (wM cI cJ a_m s_m) sz (fun u : MS => (wM cI cJ a_m u)) r := by
  refine Met.ofW (cc := cX7_copy) (maxL := 7) (ret := (some .int)) (by decide) rfl ?_
  intro p e s m args below meth c s₁ B hml hv
  obtain ⟨hav, hsz, hP, hK, hD0⟩ := hv
  subst hsz
  have hD := hD0.self (sz := s.heap.size)
  generalize hAe : va_A (wM cI cJ a_m s_m) s.heap.size = A at hD ⊢
  have hA : ∀ q : Nat, s.heap.size ≤ q → A q := fun q h => by rw [← hAe]; exact Or.inr h
  have hS : va_S A s.heap s.heap [] := va_S.rf
  have hx := B.exec
  have hb := B.bytes
  have hr := B.returns
  have hts := atoms_spec (ws := wsX7_copy) B.pre
  have hown : s.vm.findClass RX7 = some m.cls := findClass_of_methodNamed B.named
  have hlocks := B.notSynchronized
  have hcf : CallFix p m c cX7_copy 7 s args wsX7_copy RX7 := ⟨hx, hb, hml, hown, hts⟩
  have fl_31 := hts (.fieldLink RX7 31 "BucketGiftModel" "bitsOf" "[I") (List.mem_of_getElem? (i := 2) rfl)
  have fl_34 := hts (.fieldLink RX7 34 "BucketGiftModel" "sizeOf" "[I") (List.mem_of_getElem? (i := 5) rfl)
  have fl_37 := hts (.fieldLink RX7 37 "BucketGiftModel" "numbers" "[J") (List.mem_of_getElem? (i := 7) rfl)
  have fl_41 := hts (.fieldLink RX7 41 "BucketGiftModel" "moved" "[J") (List.mem_of_getElem? (i := 6) rfl)
  have kc_48 := hts (.constant RX7 48 (-1000000001)) (List.mem_of_getElem? (i := 1) rfl)
  have kc_279 := hts (.constant RX7 279 (-1000000006)) (List.mem_of_getElem? (i := 3) rfl)
  have kc_112 := hts (.constant RX7 112 (-1000000003)) (List.mem_of_getElem? (i := 4) rfl)
  have hg : entryFrame m args 7 = entryFrame m ([.ref (a_m 0), .int x1, .int x2, .int x3, .int x4, .int x5] : List Value).toArray 7 := by rw [hav]
  rw [hg, lg_entry_eq]
  have hl := lv_entry ([.ref (a_m 0), .int x1, .int x2, .int x3, .int x4, .int x5]) (n := 7) (Nat.le_of_ble_eq_true rfl)
  generalize (lg_sl ([.ref (a_m 0), .int x1, .int x2, .int x3, .int x4, .int x5]) ++ List.replicate (7 - (lg_sl ([.ref (a_m 0), .int x1, .int x2, .int x3, .int x4, .int x5])).length) Slot.unset).toArray = ls at hl ⊢
  have hl : lv_has ls 7 [(0, .ref (a_m 0)), (1, .int x1), (2, .int x2), (3, .int x3), (4, .int x4), (5, .int x5)] := hl
  clear hg
  unfold fX7_copy at hd
  have b14 : ∀ (s_m : MS), fX7_copy_b14 fu    s_m = some r → bk_U p l e (headSpec wsX7_copy (gRm 2 45)).room s m args below meth c (qUi below args s (dC, dI) vwCl (gty cI cJ cQ) A (fun u : MS => (wM cI cJ a_m u)) r) (dC, dI) vwCl A 7 (wM cI cJ a_m s_m) 14 [(0, .ref (a_m 0))] [] := by
    intro s_m hd
    intro H locs ls hP hD hS hl
    unfold fX7_copy_b14 at hd
    refine lv_aload_n hx hb dX7_copy_14 rfl (lv_at hl 0 rfl) ?_
    refine lv_ldc hx hb hown kc_48 dX7_copy_15 ?_
    refine rx_upi1 hd hD hS hA (fun v hv => va_runV (As := [.int (-1000000001 : Int32)]) (rest := []) hcf (c_X7_finds l dC dI cI cJ cQ fu a_m _  s_m (-1000000001 : Int32) v hv) (cwV 1 hts gX7_copy_X7_finds rfl rfl rfl cd_X7_finds ⟨(Nat.le_of_ble_eq_true rfl), (Nat.le_of_ble_eq_true rfl)⟩) (cq_U_V1 (q0 := 0) (ci := 6) hK hP hD rfl rfl) rfl rfl hl.1 rfl (lv_room (Nat.le_of_ble_eq_true rfl)) dX7_copy_17 ⟨Nat.le_refl _, Nat.le_refl _⟩) (fun u17 hd H locs hP hD hS => ?_)
    exact rx_retUi (u := u17.2) (w1 := (fun u : MS => (wM cI cJ a_m u))) hx hb hr hlocks hd hK hP hD hS dX7_copy_20
  have b39 : ∀ (s_m : MS), fX7_copy_b39 fu    s_m = some r → bk_U p l e (headSpec wsX7_copy (gRm 2 45)).room s m args below meth c (qUi below args s (dC, dI) vwCl (gty cI cJ cQ) A (fun u : MS => (wM cI cJ a_m u)) r) (dC, dI) vwCl A 7 (wM cI cJ a_m s_m) 39 [(0, .ref (a_m 0))] [] := by
    intro s_m hd
    intro H locs ls hP hD hS hl
    unfold fX7_copy_b39 at hd
    refine lv_aload_n hx hb dX7_copy_39 rfl (lv_at hl 0 rfl) ?_
    refine lv_ldcw hx hb hown kc_279 dX7_copy_40 ?_
    refine rx_upi1 hd hD hS hA (fun v hv => va_runV (As := [.int (-1000000006 : Int32)]) (rest := []) hcf (c_X7_finds l dC dI cI cJ cQ fu a_m _  s_m (-1000000006 : Int32) v hv) (cwV 1 hts gX7_copy_X7_finds rfl rfl rfl cd_X7_finds ⟨(Nat.le_of_ble_eq_true rfl), (Nat.le_of_ble_eq_true rfl)⟩) (cq_U_V1 (q0 := 0) (ci := 6) hK hP hD rfl rfl) rfl rfl hl.1 rfl (lv_room (Nat.le_of_ble_eq_true rfl)) dX7_copy_43 ⟨Nat.le_refl _, Nat.le_refl _⟩) (fun u43 hd H locs hP hD hS => ?_)
    exact rx_retUi (u := u43.2) (w1 := (fun u : MS => (wM cI cJ a_m u))) hx hb hr hlocks hd hK hP hD hS dX7_copy_46
  have b110 : ∀ (s_m : MS), fX7_copy_b110 fu    s_m = some r → bk_U p l e (headSpec wsX7_copy (gRm 2 45)).room s m args below meth c (qUi below args s (dC, dI) vwCl (gty cI cJ cQ) A (fun u : MS => (wM cI cJ a_m u)) r) (dC, dI) vwCl A 7 (wM cI cJ a_m s_m) 110 [(0, .ref (a_m 0))] [] := by
    intro s_m hd
    intro H locs ls hP hD hS hl
    unfold fX7_copy_b110 at hd
    refine lv_aload_n hx hb dX7_copy_110 rfl (lv_at hl 0 rfl) ?_
    refine lv_ldc hx hb hown kc_48 dX7_copy_111 ?_
    refine rx_upi1 hd hD hS hA (fun v hv => va_runV (As := [.int (-1000000001 : Int32)]) (rest := []) hcf (c_X7_finds l dC dI cI cJ cQ fu a_m _  s_m (-1000000001 : Int32) v hv) (cwV 1 hts gX7_copy_X7_finds rfl rfl rfl cd_X7_finds ⟨(Nat.le_of_ble_eq_true rfl), (Nat.le_of_ble_eq_true rfl)⟩) (cq_U_V1 (q0 := 0) (ci := 6) hK hP hD rfl rfl) rfl rfl hl.1 rfl (lv_room (Nat.le_of_ble_eq_true rfl)) dX7_copy_113 ⟨Nat.le_refl _, Nat.le_refl _⟩) (fun u113 hd H locs hP hD hS => ?_)
    exact rx_retUi (u := u113.2) (w1 := (fun u : MS => (wM cI cJ a_m u))) hx hb hr hlocks hd hK hP hD hS dX7_copy_116
  have b157 : ∀ (x3 : Int32) (x4 : Int32) (x5 : Int32) (s_m : MS) (x6 : Int32), fX7_copy_b157 fu    x3 x4 x5 s_m x6 = some r → bk_U p l e (headSpec wsX7_copy (gRm 2 45)).room s m args below meth c (qUi below args s (dC, dI) vwCl (gty cI cJ cQ) A (fun u : MS => (wM cI cJ a_m u)) r) (dC, dI) vwCl A 7 (wM cI cJ a_m s_m) 157 [(0, .ref (a_m 0)), (3, .int x3), (4, .int x4), (5, .int x5), (6, .int x6)] [] := by
    intro x3 x4 x5
    have L : ∀ (n : Nat) (s_m : MS) (x6 : Int32), g_lp (fun _ _ => none) (fX7_copy_b157B fu    x3 x4 x5) n s_m x6 = some r → bk_U p l e (headSpec wsX7_copy (gRm 2 45)).room s m args below meth c (qUi below args s (dC, dI) vwCl (gty cI cJ cQ) A (fun u : MS => (wM cI cJ a_m u)) r) (dC, dI) vwCl A 7 (wM cI cJ a_m s_m) 157 [(0, .ref (a_m 0)), (3, .int x3), (4, .int x4), (5, .int x5), (6, .int x6)] [] := by
      intro n
      induction n with
      | zero => intro s_m x6 hd; exact absurd hd (by intro h; cases h)
      | succ n k157 =>
        intro s_m x6 hd
        intro H locs ls hP hD hS hl
        have hd : fX7_copy_b157B fu    x3 x4 x5 (g_lp (fun _ _ => none) (fX7_copy_b157B fu    x3 x4 x5) n) s_m x6 = some r := hd
        unfold fX7_copy_b157B at hd
        refine lv_iload hx hb dX7_copy_157 (lv_at hl 4 rfl) ?_
        refine lv_iload hx hb dX7_copy_159 (lv_at hl 3 rfl) ?_
        refine rx_icmp_ge hx hb 192 dX7_copy_161 rfl hd (fun hd => ?_) (fun hd => ?_)
        · refine lv_iload hx hb dX7_copy_192 (lv_at hl 3 rfl) ?_
          exact rx_retUi (u := s_m) (w1 := (fun u : MS => (wM cI cJ a_m u))) hx hb hr hlocks hd hK hP hD hS dX7_copy_194
        refine lv_aload_n hx hb dX7_copy_164 rfl (lv_at hl 0 rfl) ?_
        refine rx_get hx hb hts fiX7_copy_X7 hown hK hP 0 rfl rfl 16 (Nat.le_of_ble_eq_true rfl) fl_37 rfl rfl dX7_copy_165 ?_
        refine lv_bipush (v := 40) hx hb dX7_copy_168 kb_40 ?_
        refine lv_iload_n hx hb dX7_copy_170 rfl (lv_at hl 1 rfl) ?_
        refine lv_imul hx hb dX7_copy_171 ?_
        refine lv_iload hx hb dX7_copy_172 (lv_at hl 2 rfl) ?_
        refine lv_iadd hx hb dX7_copy_174 ?_
        refine lv_iload hx hb dX7_copy_175 (lv_at hl 4 rfl) ?_
        refine lv_iadd hx hb dX7_copy_177 ?_
        refine lv_aload_n hx hb dX7_copy_178 rfl (lv_at hl 0 rfl) ?_
        refine rx_get hx hb hts fiX7_copy_X7 hown hK hP 0 rfl rfl 17 (Nat.le_of_ble_eq_true rfl) fl_41 rfl rfl dX7_copy_179 ?_
        refine lv_iload hx hb dX7_copy_182 (lv_at hl 4 rfl) ?_
        refine rx_lald hx hb hK hP 11 1 rfl rfl hd dX7_copy_184 (fun v184 hd => ?_)
        refine rx_last (wM cI cJ a_m (muNumbers s_m (Int32.toNatClampNeg ((((40 : Int32) * x3) + x4) + x6)) v184)) hx hb hK hP hD hS 10 1 rfl rfl hd (wM_uNumbers ..) dX7_copy_185 (fun hd H locs hP hD hS => ?_)
        refine rx_iinc (lv' := fun z => (6, .int z) :: [(0, .ref (a_m 0)), (3, .int x3), (4, .int x4), (5, .int x5)]) hx hb (j := 4) dX7_copy_186 hl rfl ki_1 hd (Nat.le_of_ble_eq_true rfl) (fun _ => rfl) (fun x6_186 hd ls hl => ?_)
        refine lv_goto (tgt := 157) hx hb dX7_copy_189 rfl ?_
        exact k157 (muNumbers s_m (Int32.toNatClampNeg ((((40 : Int32) * x3) + x4) + x6)) v184) x6_186 hd _ _ _ hP hD hS (lv_sub hl [1, 2, 3, 4, 0] rfl)
    exact fun s_m x6 => L fu s_m x6
  have b120 : ∀ (x1 : Int32) (x2 : Int32) (x3 : Int32) (x4 : Int32) (x5 : Int32) (s_m : MS) (x6 : Int32), fX7_copy_b120 fu    x1 x2 x3 x4 x5 s_m x6 = some r → bk_U p l e (headSpec wsX7_copy (gRm 2 45)).room s m args below meth c (qUi below args s (dC, dI) vwCl (gty cI cJ cQ) A (fun u : MS => (wM cI cJ a_m u)) r) (dC, dI) vwCl A 7 (wM cI cJ a_m s_m) 120 [(0, .ref (a_m 0)), (1, .int x1), (2, .int x2), (3, .int x3), (4, .int x4), (5, .int x5), (6, .int x6)] [] := by
    intro x1 x2 x3 x4 x5
    have L : ∀ (n : Nat) (s_m : MS) (x6 : Int32), g_lp (fun _ _ => none) (fX7_copy_b120B fu    x1 x2 x3 x4 x5) n s_m x6 = some r → bk_U p l e (headSpec wsX7_copy (gRm 2 45)).room s m args below meth c (qUi below args s (dC, dI) vwCl (gty cI cJ cQ) A (fun u : MS => (wM cI cJ a_m u)) r) (dC, dI) vwCl A 7 (wM cI cJ a_m s_m) 120 [(0, .ref (a_m 0)), (1, .int x1), (2, .int x2), (3, .int x3), (4, .int x4), (5, .int x5), (6, .int x6)] [] := by
      intro n
      induction n with
      | zero => intro s_m x6 hd; exact absurd hd (by intro h; cases h)
      | succ n k120 =>
        intro s_m x6 hd
        intro H locs ls hP hD hS hl
        have hd : fX7_copy_b120B fu    x1 x2 x3 x4 x5 (g_lp (fun _ _ => none) (fX7_copy_b120B fu    x1 x2 x3 x4 x5) n) s_m x6 = some r := hd
        unfold fX7_copy_b120B at hd
        refine lv_iload hx hb dX7_copy_120 (lv_at hl 6 rfl) ?_
        refine lv_iload hx hb dX7_copy_122 (lv_at hl 5 rfl) ?_
        refine rx_icmp_ge hx hb 154 dX7_copy_124 rfl hd (fun hd => ?_) (fun hd => ?_)
        · refine lv_iconst (v := 0) hx hb dX7_copy_154 ki_0 ?_
          refine lv_istore (lv' := [(6, .int (0 : Int32)), (0, .ref (a_m 0)), (1, .int x1), (2, .int x2), (3, .int x3), (4, .int x4), (5, .int x5)]) hx hb dX7_copy_155 hl (Nat.le_of_ble_eq_true rfl) rfl (fun ls hl => ?_)
          exact b157   x3 x4 x5 s_m (0 : Int32) hd _ _ _ hP hD hS (lv_sub hl [1, 4, 5, 6, 0] rfl)
        refine lv_aload_n hx hb dX7_copy_127 rfl (lv_at hl 0 rfl) ?_
        refine rx_get hx hb hts fiX7_copy_X7 hown hK hP 0 rfl rfl 17 (Nat.le_of_ble_eq_true rfl) fl_41 rfl rfl dX7_copy_128 ?_
        refine lv_iload hx hb dX7_copy_131 (lv_at hl 6 rfl) ?_
        refine lv_aload_n hx hb dX7_copy_133 rfl (lv_at hl 0 rfl) ?_
        refine rx_get hx hb hts fiX7_copy_X7 hown hK hP 0 rfl rfl 16 (Nat.le_of_ble_eq_true rfl) fl_37 rfl rfl dX7_copy_134 ?_
        refine lv_bipush (v := 40) hx hb dX7_copy_137 kb_40 ?_
        refine lv_iload_n hx hb dX7_copy_139 rfl (lv_at hl 1 rfl) ?_
        refine lv_imul hx hb dX7_copy_140 ?_
        refine lv_iload_n hx hb dX7_copy_141 rfl (lv_at hl 2 rfl) ?_
        refine lv_iadd hx hb dX7_copy_142 ?_
        refine lv_iload hx hb dX7_copy_143 (lv_at hl 6 rfl) ?_
        refine lv_iadd hx hb dX7_copy_145 ?_
        refine rx_lald hx hb hK hP 10 1 rfl rfl hd dX7_copy_146 (fun v146 hd => ?_)
        refine rx_last (wM cI cJ a_m (muMoved s_m (Int32.toNatClampNeg x6) v146)) hx hb hK hP hD hS 11 1 rfl rfl hd (wM_uMoved ..) dX7_copy_147 (fun hd H locs hP hD hS => ?_)
        refine rx_iinc (lv' := fun z => (6, .int z) :: [(0, .ref (a_m 0)), (1, .int x1), (2, .int x2), (3, .int x3), (4, .int x4), (5, .int x5)]) hx hb (j := 6) dX7_copy_148 hl rfl ki_1 hd (Nat.le_of_ble_eq_true rfl) (fun _ => rfl) (fun x6_148 hd ls hl => ?_)
        refine lv_goto (tgt := 120) hx hb dX7_copy_151 rfl ?_
        exact k120 (muMoved s_m (Int32.toNatClampNeg x6) v146) x6_148 hd _ _ _ hP hD hS (lv_sub hl [1, 2, 3, 4, 5, 6, 0] rfl)
    exact fun s_m x6 => L fu s_m x6
  refine lv_iload_n hx hb dX7_copy_0 rfl (lv_at hl 1 rfl) ?_
  refine rx_roi hd (fun v hv => W.runS (As := [.int x1]) (rest := []) hcf (c_X7_isOne l dC dI cI cJ cQ fu    x1 v hv) (va_cwS 1 hts gX7_copy_X7_isOne rfl rfl rfl cd_X7_isOne ⟨(Nat.le_of_ble_eq_true rfl), (Nat.le_of_ble_eq_true rfl)⟩) (cq_R_S hK hP [] rfl) rfl rfl hl.1 rfl (lv_room (Nat.le_of_ble_eq_true rfl)) dX7_copy_1 ⟨Nat.le_refl _, Nat.le_refl _⟩) (fun u1 hd => ?_)
  refine rx_if_eq hx hb 14 dX7_copy_4 rfl hd (fun hd => ?_) (fun hd => ?_)
  · exact b14   s_m hd _ _ _ hP hD hS (lv_sub hl [0] rfl)
  refine lv_iload_n hx hb dX7_copy_7 rfl (lv_at hl 3 rfl) ?_
  refine rx_roi hd (fun v hv => W.runS (As := [.int x3]) (rest := []) hcf (c_X7_isOne l dC dI cI cJ cQ fu    x3 v hv) (va_cwS 1 hts gX7_copy_X7_isOne rfl rfl rfl cd_X7_isOne ⟨(Nat.le_of_ble_eq_true rfl), (Nat.le_of_ble_eq_true rfl)⟩) (cq_R_S hK hP [] rfl) rfl rfl hl.1 rfl (lv_room (Nat.le_of_ble_eq_true rfl)) dX7_copy_8 ⟨Nat.le_refl _, Nat.le_refl _⟩) (fun u8 hd => ?_)
  refine rx_if_ne hx hb 21 dX7_copy_11 rfl hd (fun hd => ?_) (fun hd => ?_)
  · refine lv_aload_n hx hb dX7_copy_21 rfl (lv_at hl 0 rfl) ?_
    refine rx_get hx hb hts fiX7_copy_X7 hown hK hP 0 rfl rfl 14 (Nat.le_of_ble_eq_true rfl) fl_31 rfl rfl dX7_copy_22 ?_
    refine lv_iload_n hx hb dX7_copy_25 rfl (lv_at hl 1 rfl) ?_
    refine rx_iald hx hb hK hP 8 0 rfl rfl hd dX7_copy_26 (fun v26 hd => ?_)
    refine rx_if_eq hx hb 39 dX7_copy_27 rfl hd (fun hd => ?_) (fun hd => ?_)
    · exact b39   s_m hd _ _ _ hP hD hS (lv_sub hl [0] rfl)
    refine lv_aload_n hx hb dX7_copy_30 rfl (lv_at hl 0 rfl) ?_
    refine rx_get hx hb hts fiX7_copy_X7 hown hK hP 0 rfl rfl 14 (Nat.le_of_ble_eq_true rfl) fl_31 rfl rfl dX7_copy_31 ?_
    refine lv_iload_n hx hb dX7_copy_34 rfl (lv_at hl 3 rfl) ?_
    refine rx_iald hx hb hK hP 8 0 rfl rfl hd dX7_copy_35 (fun v35 hd => ?_)
    refine rx_if_ne hx hb 47 dX7_copy_36 rfl hd (fun hd => ?_) (fun hd => ?_)
    · refine lv_aload_n hx hb dX7_copy_47 rfl (lv_at hl 0 rfl) ?_
      refine rx_get hx hb hts fiX7_copy_X7 hown hK hP 0 rfl rfl 14 (Nat.le_of_ble_eq_true rfl) fl_31 rfl rfl dX7_copy_48 ?_
      refine lv_iload_n hx hb dX7_copy_51 rfl (lv_at hl 1 rfl) ?_
      refine rx_iald hx hb hK hP 8 0 rfl rfl hd dX7_copy_52 (fun v52 hd => ?_)
      refine lv_aload_n hx hb dX7_copy_53 rfl (lv_at hl 0 rfl) ?_
      refine rx_get hx hb hts fiX7_copy_X7 hown hK hP 0 rfl rfl 14 (Nat.le_of_ble_eq_true rfl) fl_31 rfl rfl dX7_copy_54 ?_
      refine lv_iload_n hx hb dX7_copy_57 rfl (lv_at hl 3 rfl) ?_
      refine rx_iald hx hb hK hP 8 0 rfl rfl hd dX7_copy_58 (fun v58 hd => ?_)
      refine rx_icmp_eq hx hb 69 dX7_copy_59 rfl hd (fun hd => ?_) (fun hd => ?_)
      · refine lv_iload_n hx hb dX7_copy_69 rfl (lv_at hl 2 rfl) ?_
        refine rx_if_lt hx hb 110 dX7_copy_70 rfl hd (fun hd => ?_) (fun hd => ?_)
        · exact b110   s_m hd _ _ _ hP hD hS (lv_sub hl [0] rfl)
        refine lv_iload hx hb dX7_copy_73 (lv_at hl 4 rfl) ?_
        refine rx_if_lt hx hb 110 dX7_copy_75 rfl hd (fun hd => ?_) (fun hd => ?_)
        · exact b110   s_m hd _ _ _ hP hD hS (lv_sub hl [0] rfl)
        refine lv_iload hx hb dX7_copy_78 (lv_at hl 5 rfl) ?_
        refine rx_if_lt hx hb 110 dX7_copy_80 rfl hd (fun hd => ?_) (fun hd => ?_)
        · exact b110   s_m hd _ _ _ hP hD hS (lv_sub hl [0] rfl)
        refine lv_iload hx hb dX7_copy_83 (lv_at hl 5 rfl) ?_
        refine lv_aload_n hx hb dX7_copy_85 rfl (lv_at hl 0 rfl) ?_
        refine rx_get hx hb hts fiX7_copy_X7 hown hK hP 0 rfl rfl 15 (Nat.le_of_ble_eq_true rfl) fl_34 rfl rfl dX7_copy_86 ?_
        refine lv_iload_n hx hb dX7_copy_89 rfl (lv_at hl 1 rfl) ?_
        refine rx_iald hx hb hK hP 9 0 rfl rfl hd dX7_copy_90 (fun v90 hd => ?_)
        refine lv_iload_n hx hb dX7_copy_91 rfl (lv_at hl 2 rfl) ?_
        refine lv_isub hx hb dX7_copy_92 ?_
        refine rx_icmp_gt hx hb 110 dX7_copy_93 rfl hd (fun hd => ?_) (fun hd => ?_)
        · exact b110   s_m hd _ _ _ hP hD hS (lv_sub hl [0] rfl)
        refine lv_iload hx hb dX7_copy_96 (lv_at hl 5 rfl) ?_
        refine lv_aload_n hx hb dX7_copy_98 rfl (lv_at hl 0 rfl) ?_
        refine rx_get hx hb hts fiX7_copy_X7 hown hK hP 0 rfl rfl 15 (Nat.le_of_ble_eq_true rfl) fl_34 rfl rfl dX7_copy_99 ?_
        refine lv_iload_n hx hb dX7_copy_102 rfl (lv_at hl 3 rfl) ?_
        refine rx_iald hx hb hK hP 9 0 rfl rfl hd dX7_copy_103 (fun v103 hd => ?_)
        refine lv_iload hx hb dX7_copy_104 (lv_at hl 4 rfl) ?_
        refine lv_isub hx hb dX7_copy_106 ?_
        refine rx_icmp_le hx hb 117 dX7_copy_107 rfl hd (fun hd => ?_) (fun hd => ?_)
        · refine lv_iconst (v := 0) hx hb dX7_copy_117 ki_0 ?_
          refine lv_istore (lv' := [(6, .int (0 : Int32)), (0, .ref (a_m 0)), (1, .int x1), (2, .int x2), (3, .int x3), (4, .int x4), (5, .int x5)]) hx hb dX7_copy_118 hl (Nat.le_of_ble_eq_true rfl) rfl (fun ls hl => ?_)
          exact b120   x1 x2 x3 x4 x5 s_m (0 : Int32) hd _ _ _ hP hD hS (lv_sub hl [1, 2, 3, 4, 5, 6, 0] rfl)
        exact b110   s_m hd _ _ _ hP hD hS (lv_sub hl [0] rfl)
      refine lv_aload_n hx hb dX7_copy_62 rfl (lv_at hl 0 rfl) ?_
      refine lv_ldc hx hb hown kc_112 dX7_copy_63 ?_
      refine rx_upi1 hd hD hS hA (fun v hv => va_runV (As := [.int (-1000000003 : Int32)]) (rest := []) hcf (c_X7_finds l dC dI cI cJ cQ fu a_m _  s_m (-1000000003 : Int32) v hv) (cwV 1 hts gX7_copy_X7_finds rfl rfl rfl cd_X7_finds ⟨(Nat.le_of_ble_eq_true rfl), (Nat.le_of_ble_eq_true rfl)⟩) (cq_U_V1 (q0 := 0) (ci := 6) hK hP hD rfl rfl) rfl rfl hl.1 rfl (lv_room (Nat.le_of_ble_eq_true rfl)) dX7_copy_65 ⟨Nat.le_refl _, Nat.le_refl _⟩) (fun u65 hd H locs hP hD hS => ?_)
      exact rx_retUi (u := u65.2) (w1 := (fun u : MS => (wM cI cJ a_m u))) hx hb hr hlocks hd hK hP hD hS dX7_copy_68
    exact b39   s_m hd _ _ _ hP hD hS (lv_sub hl [0] rfl)
  exact b14   s_m hd _ _ _ hP hD hS (lv_sub hl [0] rfl)
theorem fiX7_lays_X7 : ∀ w ∈ wsX70, w ∈ wsX7_lays := mem_r _ [32, 33, 34, 35, 36, 37, 38, 39, 40, 41, 42, 43, 44, 45, 46, 47, 48, 49] rfl
set_option maxHeartbeats 8000000 in
set_option maxRecDepth 100000 in
theorem c_X7_lays (l : Launch) (dC : Nat → ClassId) (dI : Nat → Nat → Nat) (cI cJ cQ : ClassId) (fu : Nat) (a_m : Nat → Nat) (sz : Nat) (s_m : MS) (x1 : Int32) (r : Int32 × MS) (hd : fX7_lays fu  s_m x1 = some r) : mUi l yX7_lays wsX7_lays (gRm 3 66) [.ref (a_m 0), .int x1] (dC, dI) vwCl (gty cI cJ cQ) (wM cI cJ a_m s_m) sz (fun u : MS => (wM cI cJ a_m u)) r := by
  refine Met.ofW (cc := cX7_lays) (maxL := 6) (ret := (some .int)) (by decide) rfl ?_
  intro p e s m args below meth c s₁ B hml hv
  obtain ⟨hav, hsz, hP, hK, hD0⟩ := hv
  subst hsz
  have hD := hD0.self (sz := s.heap.size)
  generalize hAe : va_A (wM cI cJ a_m s_m) s.heap.size = A at hD ⊢
  have hA : ∀ q : Nat, s.heap.size ≤ q → A q := fun q h => by rw [← hAe]; exact Or.inr h
  have hS : va_S A s.heap s.heap [] := va_S.rf
  have hx := B.exec
  have hb := B.bytes
  have hr := B.returns
  have hts := atoms_spec (ws := wsX7_lays) B.pre
  have hown : s.vm.findClass RX7 = some m.cls := findClass_of_methodNamed B.named
  have hlocks := B.notSynchronized
  have hcf : CallFix p m c cX7_lays 6 s args wsX7_lays RX7 := ⟨hx, hb, hml, hown, hts⟩
  have fl_34 := hts (.fieldLink RX7 34 "BucketGiftModel" "sizeOf" "[I") (List.mem_of_getElem? (i := 1) rfl)
  have fl_7 := hts (.fieldLink RX7 7 "BucketGiftModel" "s" "[I") (List.mem_of_getElem? (i := 2) rfl)
  have fl_37 := hts (.fieldLink RX7 37 "BucketGiftModel" "numbers" "[J") (List.mem_of_getElem? (i := 3) rfl)
  have kc_105 := hts (.constantLong RX7 105 (255)) (List.mem_of_getElem? (i := 4) rfl)
  have hg : entryFrame m args 6 = entryFrame m ([.ref (a_m 0), .int x1] : List Value).toArray 6 := by rw [hav]
  rw [hg, lg_entry_eq]
  have hl := lv_entry ([.ref (a_m 0), .int x1]) (n := 6) (Nat.le_of_ble_eq_true rfl)
  generalize (lg_sl ([.ref (a_m 0), .int x1]) ++ List.replicate (6 - (lg_sl ([.ref (a_m 0), .int x1])).length) Slot.unset).toArray = ls at hl ⊢
  have hl : lv_has ls 6 [(0, .ref (a_m 0)), (1, .int x1)] := hl
  clear hg
  unfold fX7_lays at hd
  have b102 : ∀ (x1 : Int32), ∀ (K21 : MS → Int32 → Int32 → Option (Int32 × MS)) (k21 : ∀ (s_m : MS) (x3 : Int32) (x4 : Int32), K21 s_m x3 x4 = some r → bk_U p l e (headSpec wsX7_lays (gRm 3 66)).room s m args below meth c (qUi below args s (dC, dI) vwCl (gty cI cJ cQ) A (fun u : MS => (wM cI cJ a_m u)) r) (dC, dI) vwCl A 6 (wM cI cJ a_m s_m) 21 [(0, .ref (a_m 0)), (1, .int x1), (3, .int x3), (4, .int x4)] []), ∀ (s_m : MS) (x3 : Int32) (x4 : Int32) (x5 : Int32) (y0 : Int32) (y1 : Int32), fX7_lays_b102 fu  K21 x1 s_m x3 x4 x5 y0 y1 = some r → bk_U p l e (headSpec wsX7_lays (gRm 3 66)).room s m args below meth c (qUi below args s (dC, dI) vwCl (gty cI cJ cQ) A (fun u : MS => (wM cI cJ a_m u)) r) (dC, dI) vwCl A 6 (wM cI cJ a_m s_m) 102 [(0, .ref (a_m 0)), (1, .int x1), (3, .int x3), (4, .int x4), (5, .int x5)] [.int y0, .int y1, .ref (a_m 1)] := by
    intro x1
    intro K21 k21
    intro s_m x3 x4 x5 y0 y1 hd
    intro H locs ls hP hD hS hl
    unfold fX7_lays_b102 at hd
    refine rx_iast (wM cI cJ a_m (muS s_m (Int32.toNatClampNeg y1) y0)) hx hb hK hP hD hS 1 0 rfl rfl hd (wM_uS ..) dX7_lays_102 (fun hd H locs hP hD hS => ?_)
    refine lv_iload_n hx hb dX7_lays_103 rfl (lv_at hl 2 rfl) ?_
    refine lv_iload hx hb dX7_lays_104 (lv_at hl 4 rfl) ?_
    refine rx_if_eq hx hb 113 dX7_lays_106 rfl hd (fun hd => ?_) (fun hd => ?_)
    · refine lv_iconst (v := 0) hx hb dX7_lays_113 ki_0 ?_
      refine lv_iadd hx hb dX7_lays_114 ?_
      refine rx_topi hd (fun x3_115 hd => ?_)
      refine lv_istore_n (lv' := [(3, .int x3_115), (0, .ref (a_m 0)), (1, .int x1), (4, .int x4), (5, .int x5)]) hx hb dX7_lays_115 rfl hl (Nat.le_of_ble_eq_true rfl) rfl (fun ls hl => ?_)
      refine rx_iinc (lv' := fun z => (4, .int z) :: [(3, .int x3_115), (0, .ref (a_m 0)), (1, .int x1), (5, .int x5)]) hx hb (j := 3) dX7_lays_116 hl rfl ki_1 hd (Nat.le_of_ble_eq_true rfl) (fun _ => rfl) (fun x4_116 hd ls hl => ?_)
      refine lv_goto (tgt := 21) hx hb dX7_lays_119 rfl ?_
      exact k21 (muS s_m (Int32.toNatClampNeg y1) y0) x3_115 x4_116 hd _ _ _ hP hD hS (lv_sub hl [2, 3, 1, 0] rfl)
    refine lv_iconst (v := 1) hx hb dX7_lays_109 ki_1 ?_
    refine lv_goto (tgt := 114) hx hb dX7_lays_110 rfl ?_
    refine lv_iadd hx hb dX7_lays_114 ?_
    refine rx_topi hd (fun x3_115 hd => ?_)
    refine lv_istore_n (lv' := [(3, .int x3_115), (0, .ref (a_m 0)), (1, .int x1), (4, .int x4), (5, .int x5)]) hx hb dX7_lays_115 rfl hl (Nat.le_of_ble_eq_true rfl) rfl (fun ls hl => ?_)
    refine rx_iinc (lv' := fun z => (4, .int z) :: [(3, .int x3_115), (0, .ref (a_m 0)), (1, .int x1), (5, .int x5)]) hx hb (j := 3) dX7_lays_116 hl rfl ki_1 hd (Nat.le_of_ble_eq_true rfl) (fun _ => rfl) (fun x4_116 hd ls hl => ?_)
    refine lv_goto (tgt := 21) hx hb dX7_lays_119 rfl ?_
    exact k21 (muS s_m (Int32.toNatClampNeg y1) y0) x3_115 x4_116 hd _ _ _ hP hD hS (lv_sub hl [2, 3, 1, 0] rfl)
  have b21 : ∀ (x1 : Int32) (s_m : MS) (x3 : Int32) (x4 : Int32), fX7_lays_b21 fu    x1 s_m x3 x4 = some r → bk_U p l e (headSpec wsX7_lays (gRm 3 66)).room s m args below meth c (qUi below args s (dC, dI) vwCl (gty cI cJ cQ) A (fun u : MS => (wM cI cJ a_m u)) r) (dC, dI) vwCl A 6 (wM cI cJ a_m s_m) 21 [(0, .ref (a_m 0)), (1, .int x1), (3, .int x3), (4, .int x4)] [] := by
    intro x1
    have L : ∀ (n : Nat) (s_m : MS) (x3 : Int32) (x4 : Int32), g_lp (fun _ _ _ => none) (fX7_lays_b21B fu    x1) n s_m x3 x4 = some r → bk_U p l e (headSpec wsX7_lays (gRm 3 66)).room s m args below meth c (qUi below args s (dC, dI) vwCl (gty cI cJ cQ) A (fun u : MS => (wM cI cJ a_m u)) r) (dC, dI) vwCl A 6 (wM cI cJ a_m s_m) 21 [(0, .ref (a_m 0)), (1, .int x1), (3, .int x3), (4, .int x4)] [] := by
      intro n
      induction n with
      | zero => intro s_m x3 x4 hd; exact absurd hd (by intro h; cases h)
      | succ n k21 =>
        intro s_m x3 x4 hd
        intro H locs ls hP hD hS hl
        have hd : fX7_lays_b21B fu    x1 (g_lp (fun _ _ _ => none) (fX7_lays_b21B fu    x1) n) s_m x3 x4 = some r := hd
        unfold fX7_lays_b21B at hd
        refine lv_iload hx hb dX7_lays_21 (lv_at hl 3 rfl) ?_
        refine lv_aload_n hx hb dX7_lays_23 rfl (lv_at hl 0 rfl) ?_
        refine rx_get hx hb hts fiX7_lays_X7 hown hK hP 0 rfl rfl 15 (Nat.le_of_ble_eq_true rfl) fl_34 rfl rfl dX7_lays_24 ?_
        refine lv_iload_n hx hb dX7_lays_27 rfl (lv_at hl 1 rfl) ?_
        refine rx_iald hx hb hK hP 9 0 rfl rfl hd dX7_lays_28 (fun v28 hd => ?_)
        refine rx_icmp_ge hx hb 122 dX7_lays_29 rfl hd (fun hd => ?_) (fun hd => ?_)
        · refine lv_iload_n hx hb dX7_lays_122 rfl (lv_at hl 2 rfl) ?_
          exact rx_retUi (u := s_m) (w1 := (fun u : MS => (wM cI cJ a_m u))) hx hb hr hlocks hd hK hP hD hS dX7_lays_123
        refine lv_iload hx hb dX7_lays_32 (lv_at hl 3 rfl) ?_
        refine lv_aload_n hx hb dX7_lays_34 rfl (lv_at hl 0 rfl) ?_
        refine rx_get hx hb hts fiX7_lays_X7 hown hK hP 0 rfl rfl 0 (Nat.le_of_ble_eq_true rfl) fl_7 rfl rfl dX7_lays_35 ?_
        refine lv_iconst (v := 0) hx hb dX7_lays_38 ki_0 ?_
        refine rx_iald hx hb hK hP 1 0 rfl rfl hd dX7_lays_39 (fun v39 hd => ?_)
        refine rx_icmp_ge hx hb 122 dX7_lays_40 rfl hd (fun hd => ?_) (fun hd => ?_)
        · refine lv_iload_n hx hb dX7_lays_122 rfl (lv_at hl 2 rfl) ?_
          exact rx_retUi (u := s_m) (w1 := (fun u : MS => (wM cI cJ a_m u))) hx hb hr hlocks hd hK hP hD hS dX7_lays_123
        refine lv_aload_n hx hb dX7_lays_43 rfl (lv_at hl 0 rfl) ?_
        refine rx_get hx hb hts fiX7_lays_X7 hown hK hP 0 rfl rfl 16 (Nat.le_of_ble_eq_true rfl) fl_37 rfl rfl dX7_lays_44 ?_
        refine lv_bipush (v := 40) hx hb dX7_lays_47 kb_40 ?_
        refine lv_iload_n hx hb dX7_lays_49 rfl (lv_at hl 1 rfl) ?_
        refine lv_imul hx hb dX7_lays_50 ?_
        refine lv_iload hx hb dX7_lays_51 (lv_at hl 3 rfl) ?_
        refine lv_iadd hx hb dX7_lays_53 ?_
        refine rx_lald hx hb hK hP 10 1 rfl rfl hd dX7_lays_54 (fun v54 hd => ?_)
        refine lv_lconst (v := 0) hx hb dX7_lays_55 rfl ?_
        refine lv_ldc2 hx hb hown kc_105 dX7_lays_56 ?_
        refine rx_roi hd (fun v hv => W.runS (As := [.long v54, .long (0 : Int64), .long (255 : Int64)]) (rest := []) hcf (c_X7_in l dC dI cI cJ cQ fu    v54 (0 : Int64) (255 : Int64) v hv) (va_cwS 3 hts gX7_lays_X7_in rfl rfl rfl cd_X7_in ⟨(Nat.le_of_ble_eq_true rfl), (Nat.le_of_ble_eq_true rfl)⟩) (cq_R_S hK hP [] rfl) rfl rfl hl.1 rfl (lv_room (Nat.le_of_ble_eq_true rfl)) dX7_lays_59 ⟨Nat.le_refl _, Nat.le_refl _⟩) (fun u59 hd => ?_)
        refine lv_istore (lv' := [(5, .int u59), (0, .ref (a_m 0)), (1, .int x1), (3, .int x3), (4, .int x4)]) hx hb dX7_lays_62 hl (Nat.le_of_ble_eq_true rfl) rfl (fun ls hl => ?_)
        refine lv_aload_n hx hb dX7_lays_64 rfl (lv_at hl 1 rfl) ?_
        refine rx_get hx hb hts fiX7_lays_X7 hown hK hP 0 rfl rfl 0 (Nat.le_of_ble_eq_true rfl) fl_7 rfl rfl dX7_lays_65 ?_
        refine lv_iload hx hb dX7_lays_68 (lv_at hl 4 rfl) ?_
        refine lv_iconst (v := 1) hx hb dX7_lays_70 ki_1 ?_
        refine rx_roi hd (fun v hv => W.runS (As := [.int x4, .int (1 : Int32)]) (rest := [.ref (a_m 1)]) hcf (c_X7_spot l dC dI cI cJ cQ fu    x4 (1 : Int32) v hv) (va_cwS 2 hts gX7_lays_X7_spot rfl rfl rfl cd_X7_spot ⟨(Nat.le_of_ble_eq_true rfl), (Nat.le_of_ble_eq_true rfl)⟩) (cq_R_S hK hP [] rfl) rfl rfl hl.1 rfl (lv_room (Nat.le_of_ble_eq_true rfl)) dX7_lays_71 ⟨Nat.le_refl _, Nat.le_refl _⟩) (fun u71 hd => ?_)
        refine lv_iload hx hb dX7_lays_74 (lv_at hl 0 rfl) ?_
        refine rx_if_eq hx hb 95 dX7_lays_76 rfl hd (fun hd => ?_) (fun hd => ?_)
        · refine lv_aload_n hx hb dX7_lays_95 rfl (lv_at hl 1 rfl) ?_
          refine lv_iload hx hb dX7_lays_96 (lv_at hl 4 rfl) ?_
          refine lv_iconst (v := 1) hx hb dX7_lays_98 ki_1 ?_
          refine rx_roi hd (fun v hv => W.runV (As := [.int x4, .int (1 : Int32)]) (rest := [.int u71, .ref (a_m 1)]) hcf (c_X7_its l dC dI cI cJ cQ fu a_m  s_m x4 (1 : Int32) v hv) (cwV 2 hts gX7_lays_X7_its rfl rfl rfl cd_X7_its ⟨(Nat.le_of_ble_eq_true rfl), (Nat.le_of_ble_eq_true rfl)⟩) (cq_R_V1 (q0 := 0) (ci := 6) hK hP rfl rfl) rfl rfl hl.1 rfl (lv_room (Nat.le_of_ble_eq_true rfl)) dX7_lays_99 ⟨Nat.le_refl _, Nat.le_refl _⟩) (fun u99 hd => ?_)
          exact b102 x1 _ k21 s_m x3 x4 u59 u99 u71 hd _ _ _ hP hD hS (lv_sub hl [1, 2, 3, 4, 0] rfl)
        refine lv_aload_n hx hb dX7_lays_79 rfl (lv_at hl 1 rfl) ?_
        refine rx_get hx hb hts fiX7_lays_X7 hown hK hP 0 rfl rfl 16 (Nat.le_of_ble_eq_true rfl) fl_37 rfl rfl dX7_lays_80 ?_
        refine lv_bipush (v := 40) hx hb dX7_lays_83 kb_40 ?_
        refine lv_iload_n hx hb dX7_lays_85 rfl (lv_at hl 2 rfl) ?_
        refine lv_imul hx hb dX7_lays_86 ?_
        refine lv_iload hx hb dX7_lays_87 (lv_at hl 4 rfl) ?_
        refine lv_iadd hx hb dX7_lays_89 ?_
        refine rx_lald hx hb hK hP 10 1 rfl rfl hd dX7_lays_90 (fun v90 hd => ?_)
        refine lv_l2i hx hb dX7_lays_91 rfl ?_
        refine lv_goto (tgt := 102) hx hb dX7_lays_92 rfl ?_
        exact b102 x1 _ k21 s_m x3 x4 u59 (Int64.toInt32 v90) u71 hd _ _ _ hP hD hS (lv_sub hl [1, 2, 3, 4, 0] rfl)
    exact fun s_m x3 x4 => L fu s_m x3 x4
  refine lv_aload_n hx hb dX7_lays_0 rfl (lv_at hl 0 rfl) ?_
  refine lv_iload_n hx hb dX7_lays_1 rfl (lv_at hl 1 rfl) ?_
  refine rx_roi hd (fun v hv => W.runV (As := [.int x1]) (rest := []) hcf (c_X7_wrongSheet l dC dI cI cJ cQ fu a_m  s_m x1 v hv) (cwV 1 hts gX7_lays_X7_wrongSheet rfl rfl rfl cd_X7_wrongSheet ⟨(Nat.le_of_ble_eq_true rfl), (Nat.le_of_ble_eq_true rfl)⟩) (cq_R_V1 (q0 := 0) (ci := 6) hK hP rfl rfl) rfl rfl hl.1 rfl (lv_room (Nat.le_of_ble_eq_true rfl)) dX7_lays_2 ⟨Nat.le_refl _, Nat.le_refl _⟩) (fun u2 hd => ?_)
  refine lv_istore_n (lv' := [(2, .int u2), (0, .ref (a_m 0)), (1, .int x1)]) hx hb dX7_lays_5 rfl hl (Nat.le_of_ble_eq_true rfl) rfl (fun ls hl => ?_)
  refine lv_iload_n hx hb dX7_lays_6 rfl (lv_at hl 0 rfl) ?_
  refine rx_if_eq hx hb 16 dX7_lays_7 rfl hd (fun hd => ?_) (fun hd => ?_)
  · refine lv_iconst (v := 0) hx hb dX7_lays_16 ki_0 ?_
    refine lv_istore_n (lv' := [(3, .int (0 : Int32)), (2, .int u2), (0, .ref (a_m 0)), (1, .int x1)]) hx hb dX7_lays_17 rfl hl (Nat.le_of_ble_eq_true rfl) rfl (fun ls hl => ?_)
    refine lv_iconst (v := 0) hx hb dX7_lays_18 ki_0 ?_
    refine lv_istore (lv' := [(4, .int (0 : Int32)), (3, .int (0 : Int32)), (2, .int u2), (0, .ref (a_m 0)), (1, .int x1)]) hx hb dX7_lays_19 hl (Nat.le_of_ble_eq_true rfl) rfl (fun ls hl => ?_)
    exact b21   x1 s_m (0 : Int32) (0 : Int32) hd _ _ _ hP hD hS (lv_sub hl [3, 4, 1, 0] rfl)
  refine lv_aload_n hx hb dX7_lays_10 rfl (lv_at hl 1 rfl) ?_
  refine lv_iload_n hx hb dX7_lays_11 rfl (lv_at hl 0 rfl) ?_
  refine rx_upi1 hd hD hS hA (fun v hv => va_runV (As := [.int u2]) (rest := []) hcf (c_X7_finds l dC dI cI cJ cQ fu a_m _  s_m u2 v hv) (cwV 1 hts gX7_lays_X7_finds rfl rfl rfl cd_X7_finds ⟨(Nat.le_of_ble_eq_true rfl), (Nat.le_of_ble_eq_true rfl)⟩) (cq_U_V1 (q0 := 0) (ci := 6) hK hP hD rfl rfl) rfl rfl hl.1 rfl (lv_room (Nat.le_of_ble_eq_true rfl)) dX7_lays_12 ⟨Nat.le_refl _, Nat.le_refl _⟩) (fun u12 hd H locs hP hD hS => ?_)
  exact rx_retUi (u := u12.2) (w1 := (fun u : MS => (wM cI cJ a_m u))) hx hb hr hlocks hd hK hP hD hS dX7_lays_15
set_option maxHeartbeats 8000000 in
set_option maxRecDepth 100000 in
theorem c_X7_wrongBook (l : Launch) (dC : Nat → ClassId) (dI : Nat → Nat → Nat) (cI cJ cQ : ClassId) (fu : Nat) (a_m : Nat → Nat) (s_m : MS) (x1 : Int32) (x2 : Int32) (r : Int32) (hd : fX7_wrongBook fu  s_m x1 x2 = some r) : mRi l yX7_wrongBook wsX7_wrongBook (gRm 3 66) [.ref (a_m 0), .int x1, .int x2] (cq_R (dC, dI) vwCl (gty cI cJ cQ) (wM cI cJ a_m s_m)) r := by
  refine Met.ofW (cc := cX7_wrongBook) (maxL := 4) (ret := (some .int)) (by decide) rfl ?_
  intro p e s m args below meth c s₁ B hml hv
  obtain ⟨hav, hP, hK⟩ := hv
  have hx := B.exec
  have hb := B.bytes
  have hr := B.returns
  have hts := atoms_spec (ws := wsX7_wrongBook) B.pre
  have hown : s.vm.findClass RX7 = some m.cls := findClass_of_methodNamed B.named
  have hlocks := B.notSynchronized
  have hcf : CallFix p m c cX7_wrongBook 4 s args wsX7_wrongBook RX7 := ⟨hx, hb, hml, hown, hts⟩
  have kc_48 := hts (.constant RX7 48 (-1000000001)) (List.mem_of_getElem? (i := 1) rfl)
  have hg : entryFrame m args 4 = entryFrame m ([.ref (a_m 0), .int x1, .int x2] : List Value).toArray 4 := by rw [hav]
  rw [hg, lg_entry_eq]
  have hl := lv_entry ([.ref (a_m 0), .int x1, .int x2]) (n := 4) (Nat.le_of_ble_eq_true rfl)
  generalize (lg_sl ([.ref (a_m 0), .int x1, .int x2]) ++ List.replicate (4 - (lg_sl ([.ref (a_m 0), .int x1, .int x2])).length) Slot.unset).toArray = ls at hl ⊢
  have hl : lv_has ls 4 [(0, .ref (a_m 0)), (1, .int x1), (2, .int x2)] := hl
  clear hg
  unfold fX7_wrongBook at hd
  refine lv_aload_n hx hb dX7_wrongBook_0 rfl (lv_at hl 0 rfl) ?_
  refine lv_iload_n hx hb dX7_wrongBook_1 rfl (lv_at hl 1 rfl) ?_
  refine rx_roi hd (fun v hv => W.runV (As := [.int x1]) (rest := []) hcf (c_X7_wrongSheet l dC dI cI cJ cQ fu a_m  s_m x1 v hv) (cwV 1 hts gX7_wrongBook_X7_wrongSheet rfl rfl rfl cd_X7_wrongSheet ⟨(Nat.le_of_ble_eq_true rfl), (Nat.le_of_ble_eq_true rfl)⟩) (cq_R_V1 (q0 := 0) (ci := 6) hK hP rfl rfl) rfl rfl hl.1 rfl (lv_room (Nat.le_of_ble_eq_true rfl)) dX7_wrongBook_2 ⟨Nat.le_refl _, Nat.le_refl _⟩) (fun u2 hd => ?_)
  refine lv_istore_n (lv' := [(3, .int u2), (0, .ref (a_m 0)), (1, .int x1), (2, .int x2)]) hx hb dX7_wrongBook_5 rfl hl (Nat.le_of_ble_eq_true rfl) rfl (fun ls hl => ?_)
  refine lv_iload_n hx hb dX7_wrongBook_6 rfl (lv_at hl 0 rfl) ?_
  refine rx_if_eq hx hb 14 dX7_wrongBook_7 rfl hd (fun hd => ?_) (fun hd => ?_)
  · refine lv_iload_n hx hb dX7_wrongBook_14 rfl (lv_at hl 3 rfl) ?_
    refine rx_roi hd (fun v hv => W.runS (As := [.int x2]) (rest := []) hcf (c_X7_isFarm l dC dI cI cJ cQ fu    x2 v hv) (va_cwS 1 hts gX7_wrongBook_X7_isFarm rfl rfl rfl cd_X7_isFarm ⟨(Nat.le_of_ble_eq_true rfl), (Nat.le_of_ble_eq_true rfl)⟩) (cq_R_S hK hP [] rfl) rfl rfl hl.1 rfl (lv_room (Nat.le_of_ble_eq_true rfl)) dX7_wrongBook_15 ⟨Nat.le_refl _, Nat.le_refl _⟩) (fun u15 hd => ?_)
    refine rx_if_eq hx hb 25 dX7_wrongBook_18 rfl hd (fun hd => ?_) (fun hd => ?_)
    · refine lv_ldc hx hb hown kc_48 dX7_wrongBook_25 ?_
      exact rx_retRi hx hb hr hlocks hd dX7_wrongBook_27
    refine lv_iconst (v := 0) hx hb dX7_wrongBook_21 ki_0 ?_
    refine lv_goto (tgt := 27) hx hb dX7_wrongBook_22 rfl ?_
    exact rx_retRi hx hb hr hlocks hd dX7_wrongBook_27
  refine lv_iload_n hx hb dX7_wrongBook_10 rfl (lv_at hl 0 rfl) ?_
  refine lv_goto (tgt := 27) hx hb dX7_wrongBook_11 rfl ?_
  exact rx_retRi hx hb hr hlocks hd dX7_wrongBook_27
theorem fiX7_book_X7 : ∀ w ∈ wsX70, w ∈ wsX7_book := mem_r _ [77, 78, 79, 80, 81, 82, 83, 84, 85, 86, 87, 88, 89, 90, 91, 92, 93, 94] rfl
set_option maxHeartbeats 8000000 in
set_option maxRecDepth 100000 in
theorem c_X7_book (l : Launch) (dC : Nat → ClassId) (dI : Nat → Nat → Nat) (cI cJ cQ : ClassId) (fu : Nat) (a_m : Nat → Nat) (sz : Nat) (s_m : MS) (x1 : Int32) (x2 : Int32) (r : Int32 × MS) (hd : fX7_book fu  s_m x1 x2 = some r) : mUi l yX7_book wsX7_book (gRm 6 137) [.ref (a_m 0), .int x1, .int x2] (dC, dI) vwCl (gty cI cJ cQ) (wM cI cJ a_m s_m) sz (fun u : MS => (wM cI cJ a_m u)) r := by
  refine Met.ofW (cc := cX7_book) (maxL := 5) (ret := (some .int)) (by decide) rfl ?_
  intro p e s m args below meth c s₁ B hml hv
  obtain ⟨hav, hsz, hP, hK, hD0⟩ := hv
  subst hsz
  have hD := hD0.self (sz := s.heap.size)
  generalize hAe : va_A (wM cI cJ a_m s_m) s.heap.size = A at hD ⊢
  have hA : ∀ q : Nat, s.heap.size ≤ q → A q := fun q h => by rw [← hAe]; exact Or.inr h
  have hS : va_S A s.heap s.heap [] := va_S.rf
  have hx := B.exec
  have hb := B.bytes
  have hr := B.returns
  have hts := atoms_spec (ws := wsX7_book) B.pre
  have hown : s.vm.findClass RX7 = some m.cls := findClass_of_methodNamed B.named
  have hlocks := B.notSynchronized
  have hcf : CallFix p m c cX7_book 5 s args wsX7_book RX7 := ⟨hx, hb, hml, hown, hts⟩
  have fl_34 := hts (.fieldLink RX7 34 "BucketGiftModel" "sizeOf" "[I") (List.mem_of_getElem? (i := 1) rfl)
  have fl_37 := hts (.fieldLink RX7 37 "BucketGiftModel" "numbers" "[J") (List.mem_of_getElem? (i := 2) rfl)
  have fl_31 := hts (.fieldLink RX7 31 "BucketGiftModel" "bitsOf" "[I") (List.mem_of_getElem? (i := 3) rfl)
  have fl_7 := hts (.fieldLink RX7 7 "BucketGiftModel" "s" "[I") (List.mem_of_getElem? (i := 4) rfl)
  have hg : entryFrame m args 5 = entryFrame m ([.ref (a_m 0), .int x1, .int x2] : List Value).toArray 5 := by rw [hav]
  rw [hg, lg_entry_eq]
  have hl := lv_entry ([.ref (a_m 0), .int x1, .int x2]) (n := 5) (Nat.le_of_ble_eq_true rfl)
  generalize (lg_sl ([.ref (a_m 0), .int x1, .int x2]) ++ List.replicate (5 - (lg_sl ([.ref (a_m 0), .int x1, .int x2])).length) Slot.unset).toArray = ls at hl ⊢
  have hl : lv_has ls 5 [(0, .ref (a_m 0)), (1, .int x1), (2, .int x2)] := hl
  clear hg
  unfold fX7_book at hd
  have b24 : ∀ (x1 : Int32) (x2 : Int32) (s_m : MS) (x4 : Int32), fX7_book_b24 fu    x1 x2 s_m x4 = some r → bk_U p l e (headSpec wsX7_book (gRm 6 137)).room s m args below meth c (qUi below args s (dC, dI) vwCl (gty cI cJ cQ) A (fun u : MS => (wM cI cJ a_m u)) r) (dC, dI) vwCl A 5 (wM cI cJ a_m s_m) 24 [(0, .ref (a_m 0)), (1, .int x1), (2, .int x2), (4, .int x4)] [] := by
    intro x1 x2
    have L : ∀ (n : Nat) (s_m : MS) (x4 : Int32), g_lp (fun _ _ => none) (fX7_book_b24B fu    x1 x2) n s_m x4 = some r → bk_U p l e (headSpec wsX7_book (gRm 6 137)).room s m args below meth c (qUi below args s (dC, dI) vwCl (gty cI cJ cQ) A (fun u : MS => (wM cI cJ a_m u)) r) (dC, dI) vwCl A 5 (wM cI cJ a_m s_m) 24 [(0, .ref (a_m 0)), (1, .int x1), (2, .int x2), (4, .int x4)] [] := by
      intro n
      induction n with
      | zero => intro s_m x4 hd; exact absurd hd (by intro h; cases h)
      | succ n k24 =>
        intro s_m x4 hd
        intro H locs ls hP hD hS hl
        have hd : fX7_book_b24B fu    x1 x2 (g_lp (fun _ _ => none) (fX7_book_b24B fu    x1 x2) n) s_m x4 = some r := hd
        unfold fX7_book_b24B at hd
        refine lv_iload hx hb dX7_book_24 (lv_at hl 3 rfl) ?_
        refine lv_aload_n hx hb dX7_book_26 rfl (lv_at hl 0 rfl) ?_
        refine rx_get hx hb hts fiX7_book_X7 hown hK hP 0 rfl rfl 15 (Nat.le_of_ble_eq_true rfl) fl_34 rfl rfl dX7_book_27 ?_
        refine lv_iload_n hx hb dX7_book_30 rfl (lv_at hl 1 rfl) ?_
        refine rx_iald hx hb hK hP 9 0 rfl rfl hd dX7_book_31 (fun v31 hd => ?_)
        refine rx_icmp_ge hx hb 77 dX7_book_32 rfl hd (fun hd => ?_) (fun hd => ?_)
        · refine lv_aload_n hx hb dX7_book_77 rfl (lv_at hl 0 rfl) ?_
          refine lv_aload_n hx hb dX7_book_78 rfl (lv_at hl 0 rfl) ?_
          refine rx_get hx hb hts fiX7_book_X7 hown hK hP 0 rfl rfl 15 (Nat.le_of_ble_eq_true rfl) fl_34 rfl rfl dX7_book_79 ?_
          refine lv_iload_n hx hb dX7_book_82 rfl (lv_at hl 1 rfl) ?_
          refine rx_iald hx hb hK hP 9 0 rfl rfl hd dX7_book_83 (fun v83 hd => ?_)
          refine rx_upi1 hd hD hS hA (fun v hv => va_runV (As := [.int v83]) (rest := []) hcf (c_X7_takesBack l dC dI cI cJ cQ fu a_m _  s_m v83 v hv) (cwV 1 hts gX7_book_X7_takesBack rfl rfl rfl cd_X7_takesBack ⟨(Nat.le_of_ble_eq_true rfl), (Nat.le_of_ble_eq_true rfl)⟩) (cq_U_V1 (q0 := 0) (ci := 6) hK hP hD rfl rfl) rfl rfl hl.1 rfl (lv_room (Nat.le_of_ble_eq_true rfl)) dX7_book_84 ⟨Nat.le_refl _, Nat.le_refl _⟩) (fun u84 hd H locs hP hD hS => ?_)
          exact rx_retUi (u := u84.2) (w1 := (fun u : MS => (wM cI cJ a_m u))) hx hb hr hlocks hd hK hP hD hS dX7_book_87
        refine lv_aload_n hx hb dX7_book_35 rfl (lv_at hl 0 rfl) ?_
        refine rx_get hx hb hts fiX7_book_X7 hown hK hP 0 rfl rfl 16 (Nat.le_of_ble_eq_true rfl) fl_37 rfl rfl dX7_book_36 ?_
        refine lv_bipush (v := 40) hx hb dX7_book_39 kb_40 ?_
        refine lv_iload_n hx hb dX7_book_41 rfl (lv_at hl 1 rfl) ?_
        refine lv_imul hx hb dX7_book_42 ?_
        refine lv_iload hx hb dX7_book_43 (lv_at hl 3 rfl) ?_
        refine lv_iadd hx hb dX7_book_45 ?_
        refine lv_aload_n hx hb dX7_book_46 rfl (lv_at hl 0 rfl) ?_
        refine rx_get hx hb hts fiX7_book_X7 hown hK hP 0 rfl rfl 14 (Nat.le_of_ble_eq_true rfl) fl_31 rfl rfl dX7_book_47 ?_
        refine lv_iload_n hx hb dX7_book_50 rfl (lv_at hl 1 rfl) ?_
        refine rx_iald hx hb hK hP 8 0 rfl rfl hd dX7_book_51 (fun v51 hd => ?_)
        refine lv_aload_n hx hb dX7_book_52 rfl (lv_at hl 0 rfl) ?_
        refine rx_get hx hb hts fiX7_book_X7 hown hK hP 0 rfl rfl 0 (Nat.le_of_ble_eq_true rfl) fl_7 rfl rfl dX7_book_53 ?_
        refine lv_iload_n hx hb dX7_book_56 rfl (lv_at hl 2 rfl) ?_
        refine lv_iconst (v := 1) hx hb dX7_book_57 ki_1 ?_
        refine rx_roi hd (fun v hv => W.runS (As := [.int x2, .int (1 : Int32)]) (rest := [.ref (a_m 1), .int v51, .int (((40 : Int32) * x1) + x4), .ref (a_m 10)]) hcf (c_X7_field l dC dI cI cJ cQ fu    x2 (1 : Int32) v hv) (va_cwS 2 hts gX7_book_X7_field rfl rfl rfl cd_X7_field ⟨(Nat.le_of_ble_eq_true rfl), (Nat.le_of_ble_eq_true rfl)⟩) (cq_R_S hK hP [] rfl) rfl rfl hl.1 rfl (lv_room (Nat.le_of_ble_eq_true rfl)) dX7_book_58 ⟨Nat.le_refl _, Nat.le_refl _⟩) (fun u58 hd => ?_)
        refine rx_iald hx hb hK hP 1 0 rfl rfl hd dX7_book_61 (fun v61 hd => ?_)
        refine lv_i2l hx hb dX7_book_62 rfl ?_
        refine rx_rol hd (fun v hv => W.runS (As := [.int v51, .long (Int32.toInt64 v61)]) (rest := [.int (((40 : Int32) * x1) + x4), .ref (a_m 10)]) hcf (c_X7_narrowed l dC dI cI cJ cQ fu    v51 (Int32.toInt64 v61) v hv) (va_cwS 2 hts gX7_book_X7_narrowed rfl rfl rfl cd_X7_narrowed ⟨(Nat.le_of_ble_eq_true rfl), (Nat.le_of_ble_eq_true rfl)⟩) (cq_R_S hK hP [] rfl) rfl rfl hl.1 rfl (lv_room (Nat.le_of_ble_eq_true rfl)) dX7_book_63 ⟨Nat.le_refl _, Nat.le_refl _⟩) (fun u63 hd => ?_)
        refine rx_last (wM cI cJ a_m (muNumbers s_m (Int32.toNatClampNeg (((40 : Int32) * x1) + x4)) u63)) hx hb hK hP hD hS 10 1 rfl rfl hd (wM_uNumbers ..) dX7_book_66 (fun hd H locs hP hD hS => ?_)
        refine lv_aload_n hx hb dX7_book_67 rfl (lv_at hl 0 rfl) ?_
        refine rx_upv1 hd hD hS hA (fun v hv => va_runV (As := []) (rest := []) hcf (c_X7_day l dC dI cI cJ cQ fu a_m _  (muNumbers s_m (Int32.toNatClampNeg (((40 : Int32) * x1) + x4)) u63)  v hv) (cwV 0 hts gX7_book_X7_day rfl rfl rfl cd_X7_day ⟨(Nat.le_of_ble_eq_true rfl), (Nat.le_of_ble_eq_true rfl)⟩) (cq_U_V1 (q0 := 0) (ci := 6) hK hP hD rfl rfl) rfl rfl hl.1 rfl (lv_room (Nat.le_of_ble_eq_true rfl)) dX7_book_68 ⟨Nat.le_refl _, Nat.le_refl _⟩) (fun u68 hd H locs hP hD hS => ?_)
        refine rx_iinc (lv' := fun z => (4, .int z) :: [(0, .ref (a_m 0)), (1, .int x1), (2, .int x2)]) hx hb (j := 3) dX7_book_71 hl rfl ki_1 hd (Nat.le_of_ble_eq_true rfl) (fun _ => rfl) (fun x4_71 hd ls hl => ?_)
        refine lv_goto (tgt := 24) hx hb dX7_book_74 rfl ?_
        exact k24 u68 x4_71 hd _ _ _ hP hD hS (lv_sub hl [1, 2, 3, 0] rfl)
    exact fun s_m x4 => L fu s_m x4
  refine lv_aload_n hx hb dX7_book_0 rfl (lv_at hl 0 rfl) ?_
  refine lv_iload_n hx hb dX7_book_1 rfl (lv_at hl 1 rfl) ?_
  refine lv_iload_n hx hb dX7_book_2 rfl (lv_at hl 2 rfl) ?_
  refine rx_roi hd (fun v hv => W.runV (As := [.int x1, .int x2]) (rest := []) hcf (c_X7_wrongBook l dC dI cI cJ cQ fu a_m  s_m x1 x2 v hv) (cwV 2 hts gX7_book_X7_wrongBook rfl rfl rfl cd_X7_wrongBook ⟨(Nat.le_of_ble_eq_true rfl), (Nat.le_of_ble_eq_true rfl)⟩) (cq_R_V1 (q0 := 0) (ci := 6) hK hP rfl rfl) rfl rfl hl.1 rfl (lv_room (Nat.le_of_ble_eq_true rfl)) dX7_book_3 ⟨Nat.le_refl _, Nat.le_refl _⟩) (fun u3 hd => ?_)
  refine lv_istore_n (lv' := [(3, .int u3), (0, .ref (a_m 0)), (1, .int x1), (2, .int x2)]) hx hb dX7_book_6 rfl hl (Nat.le_of_ble_eq_true rfl) rfl (fun ls hl => ?_)
  refine lv_iload_n hx hb dX7_book_7 rfl (lv_at hl 0 rfl) ?_
  refine rx_if_eq hx hb 17 dX7_book_8 rfl hd (fun hd => ?_) (fun hd => ?_)
  · refine lv_aload_n hx hb dX7_book_17 rfl (lv_at hl 1 rfl) ?_
    refine rx_upv1 hd hD hS hA (fun v hv => va_runV (As := []) (rest := []) hcf (c_X7_laysAside l dC dI cI cJ cQ fu a_m _  s_m  v hv) (cwV 0 hts gX7_book_X7_laysAside rfl rfl rfl cd_X7_laysAside ⟨(Nat.le_of_ble_eq_true rfl), (Nat.le_of_ble_eq_true rfl)⟩) (cq_U_V1 (q0 := 0) (ci := 6) hK hP hD rfl rfl) rfl rfl hl.1 rfl (lv_room (Nat.le_of_ble_eq_true rfl)) dX7_book_18 ⟨Nat.le_refl _, Nat.le_refl _⟩) (fun u18 hd H locs hP hD hS => ?_)
    refine lv_iconst (v := 0) hx hb dX7_book_21 ki_0 ?_
    refine lv_istore (lv' := [(4, .int (0 : Int32)), (3, .int u3), (0, .ref (a_m 0)), (1, .int x1), (2, .int x2)]) hx hb dX7_book_22 hl (Nat.le_of_ble_eq_true rfl) rfl (fun ls hl => ?_)
    exact b24   x1 x2 u18 (0 : Int32) hd _ _ _ hP hD hS (lv_sub hl [2, 3, 4, 0] rfl)
  refine lv_aload_n hx hb dX7_book_11 rfl (lv_at hl 1 rfl) ?_
  refine lv_iload_n hx hb dX7_book_12 rfl (lv_at hl 0 rfl) ?_
  refine rx_upi1 hd hD hS hA (fun v hv => va_runV (As := [.int u3]) (rest := []) hcf (c_X7_finds l dC dI cI cJ cQ fu a_m _  s_m u3 v hv) (cwV 1 hts gX7_book_X7_finds rfl rfl rfl cd_X7_finds ⟨(Nat.le_of_ble_eq_true rfl), (Nat.le_of_ble_eq_true rfl)⟩) (cq_U_V1 (q0 := 0) (ci := 6) hK hP hD rfl rfl) rfl rfl hl.1 rfl (lv_room (Nat.le_of_ble_eq_true rfl)) dX7_book_13 ⟨Nat.le_refl _, Nat.le_refl _⟩) (fun u13 hd H locs hP hD hS => ?_)
  exact rx_retUi (u := u13.2) (w1 := (fun u : MS => (wM cI cJ a_m u))) hx hb hr hlocks hd hK hP hD hS dX7_book_16
theorem fiX7_isBook_X7 : ∀ w ∈ wsX70, w ∈ wsX7_isBook := mem_r _ [39, 40, 41, 42, 43, 44, 45, 46, 47, 48, 49, 50, 51, 52, 53, 54, 55, 56] rfl
set_option maxHeartbeats 8000000 in
set_option maxRecDepth 100000 in
theorem c_X7_isBook (l : Launch) (dC : Nat → ClassId) (dI : Nat → Nat → Nat) (cI cJ cQ : ClassId) (fu : Nat) (a_m : Nat → Nat) (sz : Nat) (s_m : MS) (x1 : Int32) (x2 : Int32) (r : Int32 × MS) (hd : fX7_isBook fu  s_m x1 x2 = some r) : mUi l yX7_isBook wsX7_isBook (gRm 6 137) [.ref (a_m 0), .int x1, .int x2] (dC, dI) vwCl (gty cI cJ cQ) (wM cI cJ a_m s_m) sz (fun u : MS => (wM cI cJ a_m u)) r := by
  refine Met.ofW (cc := cX7_isBook) (maxL := 4) (ret := (some .boolean)) (by decide) rfl ?_
  intro p e s m args below meth c s₁ B hml hv
  obtain ⟨hav, hsz, hP, hK, hD0⟩ := hv
  subst hsz
  have hD := hD0.self (sz := s.heap.size)
  generalize hAe : va_A (wM cI cJ a_m s_m) s.heap.size = A at hD ⊢
  have hA : ∀ q : Nat, s.heap.size ≤ q → A q := fun q h => by rw [← hAe]; exact Or.inr h
  have hS : va_S A s.heap s.heap [] := va_S.rf
  have hx := B.exec
  have hb := B.bytes
  have hr := B.returns
  have hts := atoms_spec (ws := wsX7_isBook) B.pre
  have hown : s.vm.findClass RX7 = some m.cls := findClass_of_methodNamed B.named
  have hlocks := B.notSynchronized
  have hcf : CallFix p m c cX7_isBook 4 s args wsX7_isBook RX7 := ⟨hx, hb, hml, hown, hts⟩
  have fl_34 := hts (.fieldLink RX7 34 "BucketGiftModel" "sizeOf" "[I") (List.mem_of_getElem? (i := 1) rfl)
  have fl_37 := hts (.fieldLink RX7 37 "BucketGiftModel" "numbers" "[J") (List.mem_of_getElem? (i := 2) rfl)
  have fl_7 := hts (.fieldLink RX7 7 "BucketGiftModel" "s" "[I") (List.mem_of_getElem? (i := 3) rfl)
  have hg : entryFrame m args 4 = entryFrame m ([.ref (a_m 0), .int x1, .int x2] : List Value).toArray 4 := by rw [hav]
  rw [hg, lg_entry_eq]
  have hl := lv_entry ([.ref (a_m 0), .int x1, .int x2]) (n := 4) (Nat.le_of_ble_eq_true rfl)
  generalize (lg_sl ([.ref (a_m 0), .int x1, .int x2]) ++ List.replicate (4 - (lg_sl ([.ref (a_m 0), .int x1, .int x2])).length) Slot.unset).toArray = ls at hl ⊢
  have hl : lv_has ls 4 [(0, .ref (a_m 0)), (1, .int x1), (2, .int x2)] := hl
  clear hg
  unfold fX7_isBook at hd
  have b2 : ∀ (x1 : Int32) (x2 : Int32) (s_m : MS) (x3 : Int32), fX7_isBook_b2 fu    x1 x2 s_m x3 = some r → bk_U p l e (headSpec wsX7_isBook (gRm 6 137)).room s m args below meth c (qUi below args s (dC, dI) vwCl (gty cI cJ cQ) A (fun u : MS => (wM cI cJ a_m u)) r) (dC, dI) vwCl A 4 (wM cI cJ a_m s_m) 2 [(0, .ref (a_m 0)), (1, .int x1), (2, .int x2), (3, .int x3)] [] := by
    intro x1 x2
    have L : ∀ (n : Nat) (s_m : MS) (x3 : Int32), g_lp (fun _ _ => none) (fX7_isBook_b2B fu    x1 x2) n s_m x3 = some r → bk_U p l e (headSpec wsX7_isBook (gRm 6 137)).room s m args below meth c (qUi below args s (dC, dI) vwCl (gty cI cJ cQ) A (fun u : MS => (wM cI cJ a_m u)) r) (dC, dI) vwCl A 4 (wM cI cJ a_m s_m) 2 [(0, .ref (a_m 0)), (1, .int x1), (2, .int x2), (3, .int x3)] [] := by
      intro n
      induction n with
      | zero => intro s_m x3 hd; exact absurd hd (by intro h; cases h)
      | succ n k2 =>
        intro s_m x3 hd
        intro H locs ls hP hD hS hl
        have hd : fX7_isBook_b2B fu    x1 x2 (g_lp (fun _ _ => none) (fX7_isBook_b2B fu    x1 x2) n) s_m x3 = some r := hd
        unfold fX7_isBook_b2B at hd
        refine lv_iload_n hx hb dX7_isBook_2 rfl (lv_at hl 3 rfl) ?_
        refine lv_aload_n hx hb dX7_isBook_3 rfl (lv_at hl 0 rfl) ?_
        refine rx_get hx hb hts fiX7_isBook_X7 hown hK hP 0 rfl rfl 15 (Nat.le_of_ble_eq_true rfl) fl_34 rfl rfl dX7_isBook_4 ?_
        refine lv_iload_n hx hb dX7_isBook_7 rfl (lv_at hl 1 rfl) ?_
        refine rx_iald hx hb hK hP 9 0 rfl rfl hd dX7_isBook_8 (fun v8 hd => ?_)
        refine rx_icmp_ge hx hb 50 dX7_isBook_9 rfl hd (fun hd => ?_) (fun hd => ?_)
        · refine lv_iconst (v := 1) hx hb dX7_isBook_50 ki_1 ?_
          exact rx_retUz (u := s_m) (w1 := (fun u : MS => (wM cI cJ a_m u))) hx hb hr hlocks hd hK hP hD hS dX7_isBook_51
        refine lv_aload_n hx hb dX7_isBook_12 rfl (lv_at hl 0 rfl) ?_
        refine rx_get hx hb hts fiX7_isBook_X7 hown hK hP 0 rfl rfl 16 (Nat.le_of_ble_eq_true rfl) fl_37 rfl rfl dX7_isBook_13 ?_
        refine lv_bipush (v := 40) hx hb dX7_isBook_16 kb_40 ?_
        refine lv_iload_n hx hb dX7_isBook_18 rfl (lv_at hl 1 rfl) ?_
        refine lv_imul hx hb dX7_isBook_19 ?_
        refine lv_iload_n hx hb dX7_isBook_20 rfl (lv_at hl 3 rfl) ?_
        refine lv_iadd hx hb dX7_isBook_21 ?_
        refine rx_lald hx hb hK hP 10 1 rfl rfl hd dX7_isBook_22 (fun v22 hd => ?_)
        refine lv_aload_n hx hb dX7_isBook_23 rfl (lv_at hl 0 rfl) ?_
        refine rx_get hx hb hts fiX7_isBook_X7 hown hK hP 0 rfl rfl 0 (Nat.le_of_ble_eq_true rfl) fl_7 rfl rfl dX7_isBook_24 ?_
        refine lv_iload_n hx hb dX7_isBook_27 rfl (lv_at hl 2 rfl) ?_
        refine lv_iconst (v := 1) hx hb dX7_isBook_28 ki_1 ?_
        refine rx_roi hd (fun v hv => W.runS (As := [.int x2, .int (1 : Int32)]) (rest := [.ref (a_m 1), .long v22]) hcf (c_X7_field l dC dI cI cJ cQ fu    x2 (1 : Int32) v hv) (va_cwS 2 hts gX7_isBook_X7_field rfl rfl rfl cd_X7_field ⟨(Nat.le_of_ble_eq_true rfl), (Nat.le_of_ble_eq_true rfl)⟩) (cq_R_S hK hP [] rfl) rfl rfl hl.1 rfl (lv_room (Nat.le_of_ble_eq_true rfl)) dX7_isBook_29 ⟨Nat.le_refl _, Nat.le_refl _⟩) (fun u29 hd => ?_)
        refine rx_iald hx hb hK hP 1 0 rfl rfl hd dX7_isBook_32 (fun v32 hd => ?_)
        refine lv_i2l hx hb dX7_isBook_33 rfl ?_
        refine W.lcmp hx hb dX7_isBook_34 ?_
        refine rx_if_eq hx hb 40 dX7_isBook_35 rfl hd (fun hd => ?_) (fun hd => ?_)
        · refine lv_aload_n hx hb dX7_isBook_40 rfl (lv_at hl 0 rfl) ?_
          refine rx_upv1 hd hD hS hA (fun v hv => va_runV (As := []) (rest := []) hcf (c_X7_day l dC dI cI cJ cQ fu a_m _  s_m  v hv) (cwV 0 hts gX7_isBook_X7_day rfl rfl rfl cd_X7_day ⟨(Nat.le_of_ble_eq_true rfl), (Nat.le_of_ble_eq_true rfl)⟩) (cq_U_V1 (q0 := 0) (ci := 6) hK hP hD rfl rfl) rfl rfl hl.1 rfl (lv_room (Nat.le_of_ble_eq_true rfl)) dX7_isBook_41 ⟨Nat.le_refl _, Nat.le_refl _⟩) (fun u41 hd H locs hP hD hS => ?_)
          refine rx_iinc (lv' := fun z => (3, .int z) :: [(0, .ref (a_m 0)), (1, .int x1), (2, .int x2)]) hx hb (j := 3) dX7_isBook_44 hl rfl ki_1 hd (Nat.le_of_ble_eq_true rfl) (fun _ => rfl) (fun x3_44 hd ls hl => ?_)
          refine lv_goto (tgt := 2) hx hb dX7_isBook_47 rfl ?_
          exact k2 u41 x3_44 hd _ _ _ hP hD hS (lv_sub hl [1, 2, 3, 0] rfl)
        refine lv_iconst (v := 0) hx hb dX7_isBook_38 ki_0 ?_
        exact rx_retUz (u := s_m) (w1 := (fun u : MS => (wM cI cJ a_m u))) hx hb hr hlocks hd hK hP hD hS dX7_isBook_39
    exact fun s_m x3 => L fu s_m x3
  refine lv_iconst (v := 0) hx hb dX7_isBook_0 ki_0 ?_
  refine lv_istore_n (lv' := [(3, .int (0 : Int32)), (0, .ref (a_m 0)), (1, .int x1), (2, .int x2)]) hx hb dX7_isBook_1 rfl hl (Nat.le_of_ble_eq_true rfl) rfl (fun ls hl => ?_)
  exact b2   x1 x2 s_m (0 : Int32) hd _ _ _ hP hD hS (lv_sub hl [1, 2, 3, 0] rfl)
