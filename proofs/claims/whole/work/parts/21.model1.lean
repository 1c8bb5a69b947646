set_option maxHeartbeats 8000000 in
set_option maxRecDepth 100000 in
theorem c_X7_in (l : Launch) (dC : Nat → ClassId) (dI : Nat → Nat → Nat) (cI cJ cQ : ClassId) (fu : Nat)   (x0 : Int64) (x2 : Int64) (x4 : Int64) (r : Int32) (hd : fX7_in fu   x0 x2 x4 = some r) : mRi l yX7_in wsX7_in (gRm 0 0) [.long x0, .long x2, .long x4] (cq_R (dC, dI) vwCl (gty cI cJ cQ) ([] : va_W)) r := by
  refine Met.ofW (cc := cX7_in) (maxL := 6) (ret := (some .boolean)) (by decide) rfl ?_
  intro p e s m args below meth c s₁ B hml hv
  obtain ⟨hav, hP, hK⟩ := hv
  have hx := B.exec
  have hb := B.bytes
  have hr := B.returns
  have hts := atoms_spec (ws := wsX7_in) B.pre
  have hown : s.vm.findClass RX7 = some m.cls := findClass_of_methodNamed B.named
  have hlocks := B.notSynchronized
  have hcf : CallFix p m c cX7_in 6 s args wsX7_in RX7 := ⟨hx, hb, hml, hown, hts⟩
  have hg : entryFrame m args 6 = entryFrame m ([.long x0, .long x2, .long x4] : List Value).toArray 6 := by rw [hav]
  rw [hg, lg_entry_eq]
  have hl := lv_entry ([.long x0, .long x2, .long x4]) (n := 6) (Nat.le_of_ble_eq_true rfl)
  generalize (lg_sl ([.long x0, .long x2, .long x4]) ++ List.replicate (6 - (lg_sl ([.long x0, .long x2, .long x4])).length) Slot.unset).toArray = ls at hl ⊢
  have hl : lv_has ls 6 [(0, .long x0), (2, .long x2), (4, .long x4)] := hl
  clear hg
  unfold fX7_in at hd
  refine lv_lload_n hx hb dX7_in_0 rfl (lv_at hl 0 rfl) ?_
  refine lv_lload_n hx hb dX7_in_1 rfl (lv_at hl 1 rfl) ?_
  refine W.lcmp hx hb dX7_in_2 ?_
  refine rx_if_lt hx hb 17 dX7_in_3 rfl hd (fun hd => ?_) (fun hd => ?_)
  · refine lv_iconst (v := 0) hx hb dX7_in_17 ki_0 ?_
    exact rx_retRz hx hb hr hlocks hd dX7_in_18
  refine lv_lload_n hx hb dX7_in_6 rfl (lv_at hl 0 rfl) ?_
  refine lv_lload hx hb dX7_in_7 (lv_at hl 2 rfl) ?_
  refine W.lcmp hx hb dX7_in_9 ?_
  refine rx_if_gt hx hb 17 dX7_in_10 rfl hd (fun hd => ?_) (fun hd => ?_)
  · refine lv_iconst (v := 0) hx hb dX7_in_17 ki_0 ?_
    exact rx_retRz hx hb hr hlocks hd dX7_in_18
  refine lv_iconst (v := 1) hx hb dX7_in_13 ki_1 ?_
  refine lv_goto (tgt := 18) hx hb dX7_in_14 rfl ?_
  exact rx_retRz hx hb hr hlocks hd dX7_in_18
theorem fiX7_finds_X7 : ∀ w ∈ wsX70, w ∈ wsX7_finds := mem_r _ [3, 4, 5, 6, 7, 8, 9, 10, 11, 12, 13, 14, 15, 16, 17, 18, 19, 20] rfl
set_option maxHeartbeats 8000000 in
set_option maxRecDepth 100000 in
theorem c_X7_finds (l : Launch) (dC : Nat → ClassId) (dI : Nat → Nat → Nat) (cI cJ cQ : ClassId) (fu : Nat) (a_m : Nat → Nat) (sz : Nat) (s_m : MS) (x1 : Int32) (r : Int32 × MS) (hd : fX7_finds fu  s_m x1 = some r) : mUi l yX7_finds wsX7_finds (gRm 0 0) [.ref (a_m 0), .int x1] (dC, dI) vwCl (gty cI cJ cQ) (wM cI cJ a_m s_m) sz (fun u : MS => (wM cI cJ a_m u)) r := by
  refine Met.ofW (cc := cX7_finds) (maxL := 2) (ret := (some .int)) (by decide) rfl ?_
  intro p e s m args below meth c s₁ B hml hv
  obtain ⟨hav, hsz, hP, hK, hD0⟩ := hv
  subst hsz
  have hD := hD0.self (sz := s.heap.size)
  generalize hAe : va_A (wM cI cJ a_m s_m) s.heap.size = A at hD ⊢
  have hA : ∀ q : Nat, s.heap.size ≤ q → A q := fun q h => by rw [← hAe]; exact Or.inr h
  have hS : va_S A s.heap s.heap [] := va_S.rf
  have hx := B.exec
  have hb := B.bytes
  have hr := B.returns
  have hts := atoms_spec (ws := wsX7_finds) B.pre
  have hown : s.vm.findClass RX7 = some m.cls := findClass_of_methodNamed B.named
  have hlocks := B.notSynchronized
  have hcf : CallFix p m c cX7_finds 2 s args wsX7_finds RX7 := ⟨hx, hb, hml, hown, hts⟩
  have fl_22 := hts (.fieldLink RX7 22 "BucketGiftModel" "statuses" "[I") (List.mem_of_getElem? (i := 1) rfl)
  have kc_48 := hts (.constant RX7 48 (-1000000001)) (List.mem_of_getElem? (i := 2) rfl)
  have hg : entryFrame m args 2 = entryFrame m ([.ref (a_m 0), .int x1] : List Value).toArray 2 := by rw [hav]
  rw [hg, lg_entry_eq]
  have hl := lv_entry ([.ref (a_m 0), .int x1]) (n := 2) (Nat.le_of_ble_eq_true rfl)
  generalize (lg_sl ([.ref (a_m 0), .int x1]) ++ List.replicate (2 - (lg_sl ([.ref (a_m 0), .int x1])).length) Slot.unset).toArray = ls at hl ⊢
  have hl : lv_has ls 2 [(0, .ref (a_m 0)), (1, .int x1)] := hl
  clear hg
  unfold fX7_finds at hd
  refine lv_aload_n hx hb dX7_finds_0 rfl (lv_at hl 0 rfl) ?_
  refine rx_get hx hb hts fiX7_finds_X7 hown hK hP 0 rfl rfl 4 (Nat.le_of_ble_eq_true rfl) fl_22 rfl rfl dX7_finds_1 ?_
  refine lv_ldc hx hb hown kc_48 dX7_finds_4 ?_
  refine lv_iload_n hx hb dX7_finds_6 rfl (lv_at hl 1 rfl) ?_
  refine lv_isub hx hb dX7_finds_7 ?_
  refine lv_dup2_11 hx hb dX7_finds_8 rfl rfl ?_
  refine rx_iald hx hb hK hP 5 0 rfl rfl hd dX7_finds_9 (fun v9 hd => ?_)
  refine lv_iconst (v := 1) hx hb dX7_finds_10 ki_1 ?_
  refine lv_iadd hx hb dX7_finds_11 ?_
  refine rx_iast (wM cI cJ a_m (muStatuses s_m (Int32.toNatClampNeg ((-1000000001 : Int32) - x1)) (v9 + (1 : Int32)))) hx hb hK hP hD hS 5 0 rfl rfl hd (wM_uStatuses ..) dX7_finds_12 (fun hd H locs hP hD hS => ?_)
  refine lv_iload_n hx hb dX7_finds_13 rfl (lv_at hl 1 rfl) ?_
  exact rx_retUi (u := (muStatuses s_m (Int32.toNatClampNeg ((-1000000001 : Int32) - x1)) (v9 + (1 : Int32)))) (w1 := (fun u : MS => (wM cI cJ a_m u))) hx hb hr hlocks hd hK hP hD hS dX7_finds_14
theorem fiX7_saves_X7 : ∀ w ∈ wsX70, w ∈ wsX7_saves := mem_r _ [3, 4, 5, 6, 7, 8, 9, 10, 11, 12, 13, 14, 15, 16, 17, 18, 19, 20] rfl
set_option maxHeartbeats 8000000 in
set_option maxRecDepth 100000 in
theorem c_X7_saves (l : Launch) (dC : Nat → ClassId) (dI : Nat → Nat → Nat) (cI cJ cQ : ClassId) (fu : Nat) (a_m : Nat → Nat) (sz : Nat) (s_m : MS)  (r : MS) (hd : fX7_saves fu  s_m  = some r) : mUv l yX7_saves wsX7_saves (gRm 0 0) [.ref (a_m 0)] (dC, dI) vwCl (gty cI cJ cQ) (wM cI cJ a_m s_m) sz (fun u : MS => (wM cI cJ a_m u)) r := by
  refine Met.ofW (cc := cX7_saves) (maxL := 2) (ret := none) (by decide) rfl ?_
  intro p e s m args below meth c s₁ B hml hv
  obtain ⟨hav, hsz, hP, hK, hD0⟩ := hv
  subst hsz
  have hD := hD0.self (sz := s.heap.size)
  generalize hAe : va_A (wM cI cJ a_m s_m) s.heap.size = A at hD ⊢
  have hA : ∀ q : Nat, s.heap.size ≤ q → A q := fun q h => by rw [← hAe]; exact Or.inr h
  have hS : va_S A s.heap s.heap [] := va_S.rf
  have hx := B.exec
  have hb := B.bytes
  have hr := B.returns
  have hts := atoms_spec (ws := wsX7_saves) B.pre
  have hown : s.vm.findClass RX7 = some m.cls := findClass_of_methodNamed B.named
  have hlocks := B.notSynchronized
  have hcf : CallFix p m c cX7_saves 2 s args wsX7_saves RX7 := ⟨hx, hb, hml, hown, hts⟩
  have fl_16 := hts (.fieldLink RX7 16 "BucketGiftModel" "other" "[I") (List.mem_of_getElem? (i := 1) rfl)
  have fl_7 := hts (.fieldLink RX7 7 "BucketGiftModel" "s" "[I") (List.mem_of_getElem? (i := 2) rfl)
  have hg : entryFrame m args 2 = entryFrame m ([.ref (a_m 0)] : List Value).toArray 2 := by rw [hav]
  rw [hg, lg_entry_eq]
  have hl := lv_entry ([.ref (a_m 0)]) (n := 2) (Nat.le_of_ble_eq_true rfl)
  generalize (lg_sl ([.ref (a_m 0)]) ++ List.replicate (2 - (lg_sl ([.ref (a_m 0)])).length) Slot.unset).toArray = ls at hl ⊢
  have hl : lv_has ls 2 [(0, .ref (a_m 0))] := hl
  clear hg
  unfold fX7_saves at hd
  have b2 : ∀ (s_m : MS) (x1 : Int32), fX7_saves_b2 fu     s_m x1 = some r → bk_U p l e (headSpec wsX7_saves (gRm 0 0)).room s m args below meth c (qUv below args s (dC, dI) vwCl (gty cI cJ cQ) A (fun u : MS => (wM cI cJ a_m u)) r) (dC, dI) vwCl A 2 (wM cI cJ a_m s_m) 2 [(0, .ref (a_m 0)), (1, .int x1)] [] := by
    have L : ∀ (n : Nat) (s_m : MS) (x1 : Int32), g_lp (fun _ _ => none) (fX7_saves_b2B fu    ) n s_m x1 = some r → bk_U p l e (headSpec wsX7_saves (gRm 0 0)).room s m args below meth c (qUv below args s (dC, dI) vwCl (gty cI cJ cQ) A (fun u : MS => (wM cI cJ a_m u)) r) (dC, dI) vwCl A 2 (wM cI cJ a_m s_m) 2 [(0, .ref (a_m 0)), (1, .int x1)] [] := by
      intro n
      induction n with
      | zero => intro s_m x1 hd; exact absurd hd (by intro h; cases h)
      | succ n k2 =>
        intro s_m x1 hd
        intro H locs ls hP hD hS hl
        have hd : fX7_saves_b2B fu     (g_lp (fun _ _ => none) (fX7_saves_b2B fu    ) n) s_m x1 = some r := hd
        unfold fX7_saves_b2B at hd
        refine lv_iload_n hx hb dX7_saves_2 rfl (lv_at hl 1 rfl) ?_
        refine lv_bipush (v := 53) hx hb dX7_saves_3 kb_53 ?_
        refine rx_icmp_ge hx hb 26 dX7_saves_5 rfl hd (fun hd => ?_) (fun hd => ?_)
        · exact rx_retUv (u := s_m) (w1 := (fun u : MS => (wM cI cJ a_m u))) hx hb hr hlocks hd hK hP hD hS dX7_saves_26
        refine lv_aload_n hx hb dX7_saves_8 rfl (lv_at hl 0 rfl) ?_
        refine rx_get hx hb hts fiX7_saves_X7 hown hK hP 0 rfl rfl 2 (Nat.le_of_ble_eq_true rfl) fl_16 rfl rfl dX7_saves_9 ?_
        refine lv_iload_n hx hb dX7_saves_12 rfl (lv_at hl 1 rfl) ?_
        refine lv_aload_n hx hb dX7_saves_13 rfl (lv_at hl 0 rfl) ?_
        refine rx_get hx hb hts fiX7_saves_X7 hown hK hP 0 rfl rfl 0 (Nat.le_of_ble_eq_true rfl) fl_7 rfl rfl dX7_saves_14 ?_
        refine lv_iload_n hx hb dX7_saves_17 rfl (lv_at hl 1 rfl) ?_
        refine rx_iald hx hb hK hP 1 0 rfl rfl hd dX7_saves_18 (fun v18 hd => ?_)
        refine rx_iast (wM cI cJ a_m (muOther s_m (Int32.toNatClampNeg x1) v18)) hx hb hK hP hD hS 3 0 rfl rfl hd (wM_uOther ..) dX7_saves_19 (fun hd H locs hP hD hS => ?_)
        refine rx_iinc (lv' := fun z => (1, .int z) :: [(0, .ref (a_m 0))]) hx hb (j := 1) dX7_saves_20 hl rfl ki_1 hd (Nat.le_of_ble_eq_true rfl) (fun _ => rfl) (fun x1_20 hd ls hl => ?_)
        refine lv_goto (tgt := 2) hx hb dX7_saves_23 rfl ?_
        exact k2 (muOther s_m (Int32.toNatClampNeg x1) v18) x1_20 hd _ _ _ hP hD hS (lv_sub hl [1, 0] rfl)
    exact fun s_m x1 => L fu s_m x1
  refine lv_iconst (v := 0) hx hb dX7_saves_0 ki_0 ?_
  refine lv_istore_n (lv' := [(1, .int (0 : Int32)), (0, .ref (a_m 0))]) hx hb dX7_saves_1 rfl hl (Nat.le_of_ble_eq_true rfl) rfl (fun ls hl => ?_)
  exact b2   s_m (0 : Int32) hd _ _ _ hP hD hS (lv_sub hl [1, 0] rfl)
theorem fiX7_putsBack_X7 : ∀ w ∈ wsX70, w ∈ wsX7_putsBack := mem_r _ [3, 4, 5, 6, 7, 8, 9, 10, 11, 12, 13, 14, 15, 16, 17, 18, 19, 20] rfl
set_option maxHeartbeats 8000000 in
set_option maxRecDepth 100000 in
theorem c_X7_putsBack (l : Launch) (dC : Nat → ClassId) (dI : Nat → Nat → Nat) (cI cJ cQ : ClassId) (fu : Nat) (a_m : Nat → Nat) (sz : Nat) (s_m : MS)  (r : MS) (hd : fX7_putsBack fu  s_m  = some r) : mUv l yX7_putsBack wsX7_putsBack (gRm 0 0) [.ref (a_m 0)] (dC, dI) vwCl (gty cI cJ cQ) (wM cI cJ a_m s_m) sz (fun u : MS => (wM cI cJ a_m u)) r := by
  refine Met.ofW (cc := cX7_putsBack) (maxL := 2) (ret := none) (by decide) rfl ?_
  intro p e s m args below meth c s₁ B hml hv
  obtain ⟨hav, hsz, hP, hK, hD0⟩ := hv
  subst hsz
  have hD := hD0.self (sz := s.heap.size)
  generalize hAe : va_A (wM cI cJ a_m s_m) s.heap.size = A at hD ⊢
  have hA : ∀ q : Nat, s.heap.size ≤ q → A q := fun q h => by rw [← hAe]; exact Or.inr h
  have hS : va_S A s.heap s.heap [] := va_S.rf
  have hx := B.exec
  have hb := B.bytes
  have hr := B.returns
  have hts := atoms_spec (ws := wsX7_putsBack) B.pre
  have hown : s.vm.findClass RX7 = some m.cls := findClass_of_methodNamed B.named
  have hlocks := B.notSynchronized
  have hcf : CallFix p m c cX7_putsBack 2 s args wsX7_putsBack RX7 := ⟨hx, hb, hml, hown, hts⟩
  have fl_7 := hts (.fieldLink RX7 7 "BucketGiftModel" "s" "[I") (List.mem_of_getElem? (i := 1) rfl)
  have fl_16 := hts (.fieldLink RX7 16 "BucketGiftModel" "other" "[I") (List.mem_of_getElem? (i := 2) rfl)
  have hg : entryFrame m args 2 = entryFrame m ([.ref (a_m 0)] : List Value).toArray 2 := by rw [hav]
  rw [hg, lg_entry_eq]
  have hl := lv_entry ([.ref (a_m 0)]) (n := 2) (Nat.le_of_ble_eq_true rfl)
  generalize (lg_sl ([.ref (a_m 0)]) ++ List.replicate (2 - (lg_sl ([.ref (a_m 0)])).length) Slot.unset).toArray = ls at hl ⊢
  have hl : lv_has ls 2 [(0, .ref (a_m 0))] := hl
  clear hg
  unfold fX7_putsBack at hd
  have b2 : ∀ (s_m : MS) (x1 : Int32), fX7_putsBack_b2 fu     s_m x1 = some r → bk_U p l e (headSpec wsX7_putsBack (gRm 0 0)).room s m args below meth c (qUv below args s (dC, dI) vwCl (gty cI cJ cQ) A (fun u : MS => (wM cI cJ a_m u)) r) (dC, dI) vwCl A 2 (wM cI cJ a_m s_m) 2 [(0, .ref (a_m 0)), (1, .int x1)] [] := by
    have L : ∀ (n : Nat) (s_m : MS) (x1 : Int32), g_lp (fun _ _ => none) (fX7_putsBack_b2B fu    ) n s_m x1 = some r → bk_U p l e (headSpec wsX7_putsBack (gRm 0 0)).room s m args below meth c (qUv below args s (dC, dI) vwCl (gty cI cJ cQ) A (fun u : MS => (wM cI cJ a_m u)) r) (dC, dI) vwCl A 2 (wM cI cJ a_m s_m) 2 [(0, .ref (a_m 0)), (1, .int x1)] [] := by
      intro n
      induction n with
      | zero => intro s_m x1 hd; exact absurd hd (by intro h; cases h)
      | succ n k2 =>
        intro s_m x1 hd
        intro H locs ls hP hD hS hl
        have hd : fX7_putsBack_b2B fu     (g_lp (fun _ _ => none) (fX7_putsBack_b2B fu    ) n) s_m x1 = some r := hd
        unfold fX7_putsBack_b2B at hd
        refine lv_iload_n hx hb dX7_putsBack_2 rfl (lv_at hl 1 rfl) ?_
        refine lv_bipush (v := 53) hx hb dX7_putsBack_3 kb_53 ?_
        refine rx_icmp_ge hx hb 26 dX7_putsBack_5 rfl hd (fun hd => ?_) (fun hd => ?_)
        · exact rx_retUv (u := s_m) (w1 := (fun u : MS => (wM cI cJ a_m u))) hx hb hr hlocks hd hK hP hD hS dX7_putsBack_26
        refine lv_aload_n hx hb dX7_putsBack_8 rfl (lv_at hl 0 rfl) ?_
        refine rx_get hx hb hts fiX7_putsBack_X7 hown hK hP 0 rfl rfl 0 (Nat.le_of_ble_eq_true rfl) fl_7 rfl rfl dX7_putsBack_9 ?_
        refine lv_iload_n hx hb dX7_putsBack_12 rfl (lv_at hl 1 rfl) ?_
        refine lv_aload_n hx hb dX7_putsBack_13 rfl (lv_at hl 0 rfl) ?_
        refine rx_get hx hb hts fiX7_putsBack_X7 hown hK hP 0 rfl rfl 2 (Nat.le_of_ble_eq_true rfl) fl_16 rfl rfl dX7_putsBack_14 ?_
        refine lv_iload_n hx hb dX7_putsBack_17 rfl (lv_at hl 1 rfl) ?_
        refine rx_iald hx hb hK hP 3 0 rfl rfl hd dX7_putsBack_18 (fun v18 hd => ?_)
        refine rx_iast (wM cI cJ a_m (muS s_m (Int32.toNatClampNeg x1) v18)) hx hb hK hP hD hS 1 0 rfl rfl hd (wM_uS ..) dX7_putsBack_19 (fun hd H locs hP hD hS => ?_)
        refine rx_iinc (lv' := fun z => (1, .int z) :: [(0, .ref (a_m 0))]) hx hb (j := 1) dX7_putsBack_20 hl rfl ki_1 hd (Nat.le_of_ble_eq_true rfl) (fun _ => rfl) (fun x1_20 hd ls hl => ?_)
        refine lv_goto (tgt := 2) hx hb dX7_putsBack_23 rfl ?_
        exact k2 (muS s_m (Int32.toNatClampNeg x1) v18) x1_20 hd _ _ _ hP hD hS (lv_sub hl [1, 0] rfl)
    exact fun s_m x1 => L fu s_m x1
  refine lv_iconst (v := 0) hx hb dX7_putsBack_0 ki_0 ?_
  refine lv_istore_n (lv' := [(1, .int (0 : Int32)), (0, .ref (a_m 0))]) hx hb dX7_putsBack_1 rfl hl (Nat.le_of_ble_eq_true rfl) rfl (fun ls hl => ?_)
  exact b2   s_m (0 : Int32) hd _ _ _ hP hD hS (lv_sub hl [1, 0] rfl)
theorem fiX7_becomes_X7 : ∀ w ∈ wsX70, w ∈ wsX7_becomes := mem_r _ [2, 3, 4, 5, 6, 7, 8, 9, 10, 11, 12, 13, 14, 15, 16, 17, 18, 19] rfl
set_option maxHeartbeats 8000000 in
set_option maxRecDepth 100000 in
theorem c_X7_becomes (l : Launch) (dC : Nat → ClassId) (dI : Nat → Nat → Nat) (cI cJ cQ : ClassId) (fu : Nat) (a_m : Nat → Nat) (sz : Nat) (s_m : MS) (x1 : Int32) (x2 : Int32) (r : Int32 × MS) (hd : fX7_becomes fu  s_m x1 x2 = some r) : mUi l yX7_becomes wsX7_becomes (gRm 0 0) [.ref (a_m 0), .int x1, .int x2] (dC, dI) vwCl (gty cI cJ cQ) (wM cI cJ a_m s_m) sz (fun u : MS => (wM cI cJ a_m u)) r := by
  refine Met.ofW (cc := cX7_becomes) (maxL := 4) (ret := (some .int)) (by decide) rfl ?_
  intro p e s m args below meth c s₁ B hml hv
  obtain ⟨hav, hsz, hP, hK, hD0⟩ := hv
  subst hsz
  have hD := hD0.self (sz := s.heap.size)
  generalize hAe : va_A (wM cI cJ a_m s_m) s.heap.size = A at hD ⊢
  have hA : ∀ q : Nat, s.heap.size ≤ q → A q := fun q h => by rw [← hAe]; exact Or.inr h
  have hS : va_S A s.heap s.heap [] := va_S.rf
  have hx := B.exec
  have hb := B.bytes
  have hr := B.returns
  have hts := atoms_spec (ws := wsX7_becomes) B.pre
  have hown : s.vm.findClass RX7 = some m.cls := findClass_of_methodNamed B.named
  have hlocks := B.notSynchronized
  have hcf : CallFix p m c cX7_becomes 4 s args wsX7_becomes RX7 := ⟨hx, hb, hml, hown, hts⟩
  have fl_7 := hts (.fieldLink RX7 7 "BucketGiftModel" "s" "[I") (List.mem_of_getElem? (i := 1) rfl)
  have hg : entryFrame m args 4 = entryFrame m ([.ref (a_m 0), .int x1, .int x2] : List Value).toArray 4 := by rw [hav]
  rw [hg, lg_entry_eq]
  have hl := lv_entry ([.ref (a_m 0), .int x1, .int x2]) (n := 4) (Nat.le_of_ble_eq_true rfl)
  generalize (lg_sl ([.ref (a_m 0), .int x1, .int x2]) ++ List.replicate (4 - (lg_sl ([.ref (a_m 0), .int x1, .int x2])).length) Slot.unset).toArray = ls at hl ⊢
  have hl : lv_has ls 4 [(0, .ref (a_m 0)), (1, .int x1), (2, .int x2)] := hl
  clear hg
  unfold fX7_becomes at hd
  refine lv_aload_n hx hb dX7_becomes_0 rfl (lv_at hl 0 rfl) ?_
  refine rx_get hx hb hts fiX7_becomes_X7 hown hK hP 0 rfl rfl 0 (Nat.le_of_ble_eq_true rfl) fl_7 rfl rfl dX7_becomes_1 ?_
  refine lv_iload_n hx hb dX7_becomes_4 rfl (lv_at hl 1 rfl) ?_
  refine rx_iald hx hb hK hP 1 0 rfl rfl hd dX7_becomes_5 (fun v5 hd => ?_)
  refine lv_istore_n (lv' := [(3, .int v5), (0, .ref (a_m 0)), (1, .int x1), (2, .int x2)]) hx hb dX7_becomes_6 rfl hl (Nat.le_of_ble_eq_true rfl) rfl (fun ls hl => ?_)
  refine lv_aload_n hx hb dX7_becomes_7 rfl (lv_at hl 1 rfl) ?_
  refine rx_get hx hb hts fiX7_becomes_X7 hown hK hP 0 rfl rfl 0 (Nat.le_of_ble_eq_true rfl) fl_7 rfl rfl dX7_becomes_8 ?_
  refine lv_iload_n hx hb dX7_becomes_11 rfl (lv_at hl 2 rfl) ?_
  refine lv_iload_n hx hb dX7_becomes_12 rfl (lv_at hl 3 rfl) ?_
  refine rx_iast (wM cI cJ a_m (muS s_m (Int32.toNatClampNeg x1) x2)) hx hb hK hP hD hS 1 0 rfl rfl hd (wM_uS ..) dX7_becomes_13 (fun hd H locs hP hD hS => ?_)
  refine lv_iload_n hx hb dX7_becomes_14 rfl (lv_at hl 0 rfl) ?_
  exact rx_retUi (u := (muS s_m (Int32.toNatClampNeg x1) x2)) (w1 := (fun u : MS => (wM cI cJ a_m u))) hx hb hr hlocks hd hK hP hD hS dX7_becomes_15
set_option maxHeartbeats 8000000 in
set_option maxRecDepth 100000 in
theorem c_X7_isFarm (l : Launch) (dC : Nat → ClassId) (dI : Nat → Nat → Nat) (cI cJ cQ : ClassId) (fu : Nat)   (x0 : Int32) (r : Int32) (hd : fX7_isFarm fu   x0 = some r) : mRi l yX7_isFarm wsX7_isFarm (gRm 1 25) [.int x0] (cq_R (dC, dI) vwCl (gty cI cJ cQ) ([] : va_W)) r := by
  refine Met.ofW (cc := cX7_isFarm) (maxL := 1) (ret := (some .boolean)) (by decide) rfl ?_
  intro p e s m args below meth c s₁ B hml hv
  obtain ⟨hav, hP, hK⟩ := hv
  have hx := B.exec
  have hb := B.bytes
  have hr := B.returns
  have hts := atoms_spec (ws := wsX7_isFarm) B.pre
  have hown : s.vm.findClass RX7 = some m.cls := findClass_of_methodNamed B.named
  have hlocks := B.notSynchronized
  have hcf : CallFix p m c cX7_isFarm 1 s args wsX7_isFarm RX7 := ⟨hx, hb, hml, hown, hts⟩
  have kc_49 := hts (.constantLong RX7 49 (3)) (List.mem_of_getElem? (i := 1) rfl)
  have hg : entryFrame m args 1 = entryFrame m ([.int x0] : List Value).toArray 1 := by rw [hav]
  rw [hg, lg_entry_eq]
  have hl := lv_entry ([.int x0]) (n := 1) (Nat.le_of_ble_eq_true rfl)
  generalize (lg_sl ([.int x0]) ++ List.replicate (1 - (lg_sl ([.int x0])).length) Slot.unset).toArray = ls at hl ⊢
  have hl : lv_has ls 1 [(0, .int x0)] := hl
  clear hg
  unfold fX7_isFarm at hd
  refine lv_iload_n hx hb dX7_isFarm_0 rfl (lv_at hl 0 rfl) ?_
  refine lv_i2l hx hb dX7_isFarm_1 rfl ?_
  refine lv_lconst (v := 0) hx hb dX7_isFarm_2 rfl ?_
  refine lv_ldc2 hx hb hown kc_49 dX7_isFarm_3 ?_
  refine rx_roi hd (fun v hv => W.runS (As := [.long (Int32.toInt64 x0), .long (0 : Int64), .long (3 : Int64)]) (rest := []) hcf (c_X7_in l dC dI cI cJ cQ fu    (Int32.toInt64 x0) (0 : Int64) (3 : Int64) v hv) (va_cwS 3 hts gX7_isFarm_X7_in rfl rfl rfl cd_X7_in ⟨(Nat.le_of_ble_eq_true rfl), (Nat.le_of_ble_eq_true rfl)⟩) (cq_R_S hK hP [] rfl) rfl rfl hl.1 rfl (lv_room (Nat.le_of_ble_eq_true rfl)) dX7_isFarm_6 ⟨Nat.le_refl _, Nat.le_refl _⟩) (fun u6 hd => ?_)
  exact rx_retRz hx hb hr hlocks hd dX7_isFarm_9
theorem fiX7_isPerson_X7 : ∀ w ∈ wsX70, w ∈ wsX7_isPerson := mem_r _ [6, 7, 8, 9, 10, 11, 12, 13, 14, 15, 16, 17, 18, 19, 20, 21, 22, 23] rfl
set_option maxHeartbeats 8000000 in
set_option maxRecDepth 100000 in
theorem c_X7_isPerson (l : Launch) (dC : Nat → ClassId) (dI : Nat → Nat → Nat) (cI cJ cQ : ClassId) (fu : Nat) (a_m : Nat → Nat) (s_m : MS) (x1 : Int32) (r : Int32) (hd : fX7_isPerson fu  s_m x1 = some r) : mRi l yX7_isPerson wsX7_isPerson (gRm 1 25) [.ref (a_m 0), .int x1] (cq_R (dC, dI) vwCl (gty cI cJ cQ) (wM cI cJ a_m s_m)) r := by
  refine Met.ofW (cc := cX7_isPerson) (maxL := 2) (ret := (some .boolean)) (by decide) rfl ?_
  intro p e s m args below meth c s₁ B hml hv
  obtain ⟨hav, hP, hK⟩ := hv
  have hx := B.exec
  have hb := B.bytes
  have hr := B.returns
  have hts := atoms_spec (ws := wsX7_isPerson) B.pre
  have hown : s.vm.findClass RX7 = some m.cls := findClass_of_methodNamed B.named
  have hlocks := B.notSynchronized
  have hcf : CallFix p m c cX7_isPerson 2 s args wsX7_isPerson RX7 := ⟨hx, hb, hml, hown, hts⟩
  have fl_7 := hts (.fieldLink RX7 7 "BucketGiftModel" "s" "[I") (List.mem_of_getElem? (i := 1) rfl)
  have hg : entryFrame m args 2 = entryFrame m ([.ref (a_m 0), .int x1] : List Value).toArray 2 := by rw [hav]
  rw [hg, lg_entry_eq]
  have hl := lv_entry ([.ref (a_m 0), .int x1]) (n := 2) (Nat.le_of_ble_eq_true rfl)
  generalize (lg_sl ([.ref (a_m 0), .int x1]) ++ List.replicate (2 - (lg_sl ([.ref (a_m 0), .int x1])).length) Slot.unset).toArray = ls at hl ⊢
  have hl : lv_has ls 2 [(0, .ref (a_m 0)), (1, .int x1)] := hl
  clear hg
  unfold fX7_isPerson at hd
  refine lv_iload_n hx hb dX7_isPerson_0 rfl (lv_at hl 1 rfl) ?_
  refine lv_i2l hx hb dX7_isPerson_1 rfl ?_
  refine lv_lconst (v := 0) hx hb dX7_isPerson_2 rfl ?_
  refine lv_aload_n hx hb dX7_isPerson_3 rfl (lv_at hl 0 rfl) ?_
  refine rx_get hx hb hts fiX7_isPerson_X7 hown hK hP 0 rfl rfl 0 (Nat.le_of_ble_eq_true rfl) fl_7 rfl rfl dX7_isPerson_4 ?_
  refine lv_iconst (v := 0) hx hb dX7_isPerson_7 ki_0 ?_
  refine rx_iald hx hb hK hP 1 0 rfl rfl hd dX7_isPerson_8 (fun v8 hd => ?_)
  refine lv_iconst (v := 1) hx hb dX7_isPerson_9 ki_1 ?_
  refine lv_isub hx hb dX7_isPerson_10 ?_
  refine lv_i2l hx hb dX7_isPerson_11 rfl ?_
  refine rx_roi hd (fun v hv => W.runS (As := [.long (Int32.toInt64 x1), .long (0 : Int64), .long (Int32.toInt64 (v8 - (1 : Int32)))]) (rest := []) hcf (c_X7_in l dC dI cI cJ cQ fu    (Int32.toInt64 x1) (0 : Int64) (Int32.toInt64 (v8 - (1 : Int32))) v hv) (va_cwS 3 hts gX7_isPerson_X7_in rfl rfl rfl cd_X7_in ⟨(Nat.le_of_ble_eq_true rfl), (Nat.le_of_ble_eq_true rfl)⟩) (cq_R_S hK hP [] rfl) rfl rfl hl.1 rfl (lv_room (Nat.le_of_ble_eq_true rfl)) dX7_isPerson_12 ⟨Nat.le_refl _, Nat.le_refl _⟩) (fun u12 hd => ?_)
  exact rx_retRz hx hb hr hlocks hd dX7_isPerson_15
set_option maxHeartbeats 8000000 in
set_option maxRecDepth 100000 in
theorem c_X7_isKind (l : Launch) (dC : Nat → ClassId) (dI : Nat → Nat → Nat) (cI cJ cQ : ClassId) (fu : Nat)   (x0 : Int32) (r : Int32) (hd : fX7_isKind fu   x0 = some r) : mRi l yX7_isKind wsX7_isKind (gRm 1 25) [.int x0] (cq_R (dC, dI) vwCl (gty cI cJ cQ) ([] : va_W)) r := by
  refine Met.ofW (cc := cX7_isKind) (maxL := 1) (ret := (some .boolean)) (by decide) rfl ?_
  intro p e s m args below meth c s₁ B hml hv
  obtain ⟨hav, hP, hK⟩ := hv
  have hx := B.exec
  have hb := B.bytes
  have hr := B.returns
  have hts := atoms_spec (ws := wsX7_isKind) B.pre
  have hown : s.vm.findClass RX7 = some m.cls := findClass_of_methodNamed B.named
  have hlocks := B.notSynchronized
  have hcf : CallFix p m c cX7_isKind 1 s args wsX7_isKind RX7 := ⟨hx, hb, hml, hown, hts⟩
  have kc_55 := hts (.constantLong RX7 55 (5)) (List.mem_of_getElem? (i := 1) rfl)
  have hg : entryFrame m args 1 = entryFrame m ([.int x0] : List Value).toArray 1 := by rw [hav]
  rw [hg, lg_entry_eq]
  have hl := lv_entry ([.int x0]) (n := 1) (Nat.le_of_ble_eq_true rfl)
  generalize (lg_sl ([.int x0]) ++ List.replicate (1 - (lg_sl ([.int x0])).length) Slot.unset).toArray = ls at hl ⊢
  have hl : lv_has ls 1 [(0, .int x0)] := hl
  clear hg
  unfold fX7_isKind at hd
  refine lv_iload_n hx hb dX7_isKind_0 rfl (lv_at hl 0 rfl) ?_
  refine lv_i2l hx hb dX7_isKind_1 rfl ?_
  refine lv_lconst (v := 0) hx hb dX7_isKind_2 rfl ?_
  refine lv_ldc2 hx hb hown kc_55 dX7_isKind_3 ?_
  refine rx_roi hd (fun v hv => W.runS (As := [.long (Int32.toInt64 x0), .long (0 : Int64), .long (5 : Int64)]) (rest := []) hcf (c_X7_in l dC dI cI cJ cQ fu    (Int32.toInt64 x0) (0 : Int64) (5 : Int64) v hv) (va_cwS 3 hts gX7_isKind_X7_in rfl rfl rfl cd_X7_in ⟨(Nat.le_of_ble_eq_true rfl), (Nat.le_of_ble_eq_true rfl)⟩) (cq_R_S hK hP [] rfl) rfl rfl hl.1 rfl (lv_room (Nat.le_of_ble_eq_true rfl)) dX7_isKind_6 ⟨Nat.le_refl _, Nat.le_refl _⟩) (fun u6 hd => ?_)
  exact rx_retRz hx hb hr hlocks hd dX7_isKind_9
set_option maxHeartbeats 8000000 in
set_option maxRecDepth 100000 in
theorem c_X7_field (l : Launch) (dC : Nat → ClassId) (dI : Nat → Nat → Nat) (cI cJ cQ : ClassId) (fu : Nat)   (x0 : Int32) (x1 : Int32) (r : Int32) (hd : fX7_field fu   x0 x1 = some r) : mRi l yX7_field wsX7_field (gRm 0 0) [.int x0, .int x1] (cq_R (dC, dI) vwCl (gty cI cJ cQ) ([] : va_W)) r := by
  refine Met.ofW (cc := cX7_field) (maxL := 2) (ret := (some .int)) (by decide) rfl ?_
  intro p e s m args below meth c s₁ B hml hv
  obtain ⟨hav, hP, hK⟩ := hv
  have hx := B.exec
  have hb := B.bytes
  have hr := B.returns
  have hts := atoms_spec (ws := wsX7_field) B.pre
  have hown : s.vm.findClass RX7 = some m.cls := findClass_of_methodNamed B.named
  have hlocks := B.notSynchronized
  have hcf : CallFix p m c cX7_field 2 s args wsX7_field RX7 := ⟨hx, hb, hml, hown, hts⟩
  have hg : entryFrame m args 2 = entryFrame m ([.int x0, .int x1] : List Value).toArray 2 := by rw [hav]
  rw [hg, lg_entry_eq]
  have hl := lv_entry ([.int x0, .int x1]) (n := 2) (Nat.le_of_ble_eq_true rfl)
  generalize (lg_sl ([.int x0, .int x1]) ++ List.replicate (2 - (lg_sl ([.int x0, .int x1])).length) Slot.unset).toArray = ls at hl ⊢
  have hl : lv_has ls 2 [(0, .int x0), (1, .int x1)] := hl
  clear hg
  unfold fX7_field at hd
  refine lv_iconst (v := 5) hx hb dX7_field_0 ki_5 ?_
  refine lv_iconst (v := 4) hx hb dX7_field_1 ki_4 ?_
  refine lv_iload_n hx hb dX7_field_2 rfl (lv_at hl 0 rfl) ?_
  refine lv_imul hx hb dX7_field_3 ?_
  refine lv_iadd hx hb dX7_field_4 ?_
  refine lv_iload_n hx hb dX7_field_5 rfl (lv_at hl 1 rfl) ?_
  refine lv_iadd hx hb dX7_field_6 ?_
  exact rx_retRi hx hb hr hlocks hd dX7_field_7
set_option maxHeartbeats 8000000 in
set_option maxRecDepth 100000 in
theorem c_X7_spot (l : Launch) (dC : Nat → ClassId) (dI : Nat → Nat → Nat) (cI cJ cQ : ClassId) (fu : Nat)   (x0 : Int32) (x1 : Int32) (r : Int32) (hd : fX7_spot fu   x0 x1 = some r) : mRi l yX7_spot wsX7_spot (gRm 0 0) [.int x0, .int x1] (cq_R (dC, dI) vwCl (gty cI cJ cQ) ([] : va_W)) r := by
  refine Met.ofW (cc := cX7_spot) (maxL := 2) (ret := (some .int)) (by decide) rfl ?_
  intro p e s m args below meth c s₁ B hml hv
  obtain ⟨hav, hP, hK⟩ := hv
  have hx := B.exec
  have hb := B.bytes
  have hr := B.returns
  have hts := atoms_spec (ws := wsX7_spot) B.pre
  have hown : s.vm.findClass RX7 = some m.cls := findClass_of_methodNamed B.named
  have hlocks := B.notSynchronized
  have hcf : CallFix p m c cX7_spot 2 s args wsX7_spot RX7 := ⟨hx, hb, hml, hown, hts⟩
  have hg : entryFrame m args 2 = entryFrame m ([.int x0, .int x1] : List Value).toArray 2 := by rw [hav]
  rw [hg, lg_entry_eq]
  have hl := lv_entry ([.int x0, .int x1]) (n := 2) (Nat.le_of_ble_eq_true rfl)
  generalize (lg_sl ([.int x0, .int x1]) ++ List.replicate (2 - (lg_sl ([.int x0, .int x1])).length) Slot.unset).toArray = ls at hl ⊢
  have hl : lv_has ls 2 [(0, .int x0), (1, .int x1)] := hl
  clear hg
  unfold fX7_spot at hd
  refine lv_bipush (v := 21) hx hb dX7_spot_0 kb_21 ?_
  refine lv_iconst (v := 4) hx hb dX7_spot_2 ki_4 ?_
  refine lv_iload_n hx hb dX7_spot_3 rfl (lv_at hl 0 rfl) ?_
  refine lv_imul hx hb dX7_spot_4 ?_
  refine lv_iadd hx hb dX7_spot_5 ?_
  refine lv_iload_n hx hb dX7_spot_6 rfl (lv_at hl 1 rfl) ?_
  refine lv_iadd hx hb dX7_spot_7 ?_
  exact rx_retRi hx hb hr hlocks hd dX7_spot_8
theorem fiX7_its_X7 : ∀ w ∈ wsX70, w ∈ wsX7_its := mem_r _ [6, 7, 8, 9, 10, 11, 12, 13, 14, 15, 16, 17, 18, 19, 20, 21, 22, 23] rfl
set_option maxHeartbeats 8000000 in
set_option maxRecDepth 100000 in
theorem c_X7_its (l : Launch) (dC : Nat → ClassId) (dI : Nat → Nat → Nat) (cI cJ cQ : ClassId) (fu : Nat) (a_m : Nat → Nat) (s_m : MS) (x1 : Int32) (x2 : Int32) (r : Int32) (hd : fX7_its fu  s_m x1 x2 = some r) : mRi l yX7_its wsX7_its (gRm 1 21) [.ref (a_m 0), .int x1, .int x2] (cq_R (dC, dI) vwCl (gty cI cJ cQ) (wM cI cJ a_m s_m)) r := by
  refine Met.ofW (cc := cX7_its) (maxL := 3) (ret := (some .int)) (by decide) rfl ?_
  intro p e s m args below meth c s₁ B hml hv
  obtain ⟨hav, hP, hK⟩ := hv
  have hx := B.exec
  have hb := B.bytes
  have hr := B.returns
  have hts := atoms_spec (ws := wsX7_its) B.pre
  have hown : s.vm.findClass RX7 = some m.cls := findClass_of_methodNamed B.named
  have hlocks := B.notSynchronized
  have hcf : CallFix p m c cX7_its 3 s args wsX7_its RX7 := ⟨hx, hb, hml, hown, hts⟩
  have fl_7 := hts (.fieldLink RX7 7 "BucketGiftModel" "s" "[I") (List.mem_of_getElem? (i := 1) rfl)
  have hg : entryFrame m args 3 = entryFrame m ([.ref (a_m 0), .int x1, .int x2] : List Value).toArray 3 := by rw [hav]
  rw [hg, lg_entry_eq]
  have hl := lv_entry ([.ref (a_m 0), .int x1, .int x2]) (n := 3) (Nat.le_of_ble_eq_true rfl)
  generalize (lg_sl ([.ref (a_m 0), .int x1, .int x2]) ++ List.replicate (3 - (lg_sl ([.ref (a_m 0), .int x1, .int x2])).length) Slot.unset).toArray = ls at hl ⊢
  have hl : lv_has ls 3 [(0, .ref (a_m 0)), (1, .int x1), (2, .int x2)] := hl
  clear hg
  unfold fX7_its at hd
  refine lv_aload_n hx hb dX7_its_0 rfl (lv_at hl 0 rfl) ?_
  refine rx_get hx hb hts fiX7_its_X7 hown hK hP 0 rfl rfl 0 (Nat.le_of_ble_eq_true rfl) fl_7 rfl rfl dX7_its_1 ?_
  refine lv_iload_n hx hb dX7_its_4 rfl (lv_at hl 1 rfl) ?_
  refine lv_iload_n hx hb dX7_its_5 rfl (lv_at hl 2 rfl) ?_
  refine rx_roi hd (fun v hv => W.runS (As := [.int x1, .int x2]) (rest := [.ref (a_m 1)]) hcf (c_X7_spot l dC dI cI cJ cQ fu    x1 x2 v hv) (va_cwS 2 hts gX7_its_X7_spot rfl rfl rfl cd_X7_spot ⟨(Nat.le_of_ble_eq_true rfl), (Nat.le_of_ble_eq_true rfl)⟩) (cq_R_S hK hP [] rfl) rfl rfl hl.1 rfl (lv_room (Nat.le_of_ble_eq_true rfl)) dX7_its_6 ⟨Nat.le_refl _, Nat.le_refl _⟩) (fun u6 hd => ?_)
  refine rx_iald hx hb hK hP 1 0 rfl rfl hd dX7_its_9 (fun v9 hd => ?_)
  exact rx_retRi hx hb hr hlocks hd dX7_its_10
set_option maxHeartbeats 8000000 in
set_option maxRecDepth 100000 in
theorem c_X7_isFarms (l : Launch) (dC : Nat → ClassId) (dI : Nat → Nat → Nat) (cI cJ cQ : ClassId) (fu : Nat) (a_m : Nat → Nat) (s_m : MS) (x1 : Int32) (x2 : Int32) (r : Int32) (hd : fX7_isFarms fu  s_m x1 x2 = some r) : mRi l yX7_isFarms wsX7_isFarms (gRm 2 46) [.ref (a_m 0), .int x1, .int x2] (cq_R (dC, dI) vwCl (gty cI cJ cQ) (wM cI cJ a_m s_m)) r := by
  refine Met.ofW (cc := cX7_isFarms) (maxL := 3) (ret := (some .boolean)) (by decide) rfl ?_
  intro p e s m args below meth c s₁ B hml hv
  obtain ⟨hav, hP, hK⟩ := hv
  have hx := B.exec
  have hb := B.bytes
  have hr := B.returns
  have hts := atoms_spec (ws := wsX7_isFarms) B.pre
  have hown : s.vm.findClass RX7 = some m.cls := findClass_of_methodNamed B.named
  have hlocks := B.notSynchronized
  have hcf : CallFix p m c cX7_isFarms 3 s args wsX7_isFarms RX7 := ⟨hx, hb, hml, hown, hts⟩
  have kc_60 := hts (.constantLong RX7 60 (20)) (List.mem_of_getElem? (i := 1) rfl)
  have kc_62 := hts (.constantLong RX7 62 (9999)) (List.mem_of_getElem? (i := 2) rfl)
  have hg : entryFrame m args 3 = entryFrame m ([.ref (a_m 0), .int x1, .int x2] : List Value).toArray 3 := by rw [hav]
  rw [hg, lg_entry_eq]
  have hl := lv_entry ([.ref (a_m 0), .int x1, .int x2]) (n := 3) (Nat.le_of_ble_eq_true rfl)
  generalize (lg_sl ([.ref (a_m 0), .int x1, .int x2]) ++ List.replicate (3 - (lg_sl ([.ref (a_m 0), .int x1, .int x2])).length) Slot.unset).toArray = ls at hl ⊢
  have hl : lv_has ls 3 [(0, .ref (a_m 0)), (1, .int x1), (2, .int x2)] := hl
  clear hg
  unfold fX7_isFarms at hd
  have b42 : ∀ (x2 : Int32), fX7_isFarms_b42 fu s_m   x2 = some r → bk_R p l e (headSpec wsX7_isFarms (gRm 2 46)).room s m args below meth c (qRi below args s r) 3 42 [(2, .int x2)] [] := by
    intro x2 hd
    intro ls hl
    unfold fX7_isFarms_b42 at hd
    refine lv_iload_n hx hb dX7_isFarms_42 rfl (lv_at hl 0 rfl) ?_
    refine lv_i2l hx hb dX7_isFarms_43 rfl ?_
    refine lv_lconst (v := 0) hx hb dX7_isFarms_44 rfl ?_
    refine lv_ldc2 hx hb hown kc_62 dX7_isFarms_45 ?_
    refine rx_roi hd (fun v hv => W.runS (As := [.long (Int32.toInt64 x2), .long (0 : Int64), .long (9999 : Int64)]) (rest := []) hcf (c_X7_in l dC dI cI cJ cQ fu    (Int32.toInt64 x2) (0 : Int64) (9999 : Int64) v hv) (va_cwS 3 hts gX7_isFarms_X7_in rfl rfl rfl cd_X7_in ⟨(Nat.le_of_ble_eq_true rfl), (Nat.le_of_ble_eq_true rfl)⟩) (cq_R_S hK hP [] rfl) rfl rfl hl.1 rfl (lv_room (Nat.le_of_ble_eq_true rfl)) dX7_isFarms_48 ⟨Nat.le_refl _, Nat.le_refl _⟩) (fun u48 hd => ?_)
    exact rx_retRz hx hb hr hlocks hd dX7_isFarms_51
  refine lv_iload_n hx hb dX7_isFarms_0 rfl (lv_at hl 1 rfl) ?_
  refine rx_tab hx hb (0 : Int32) (0) rfl 32 dX7_isFarms_1 (by decide) (by decide) rfl rfl hd (fun hd => ?_) (fun n_0 hd => ?_)
  · refine lv_iload_n hx hb dX7_isFarms_32 rfl (lv_at hl 2 rfl) ?_
    refine lv_i2l hx hb dX7_isFarms_33 rfl ?_
    refine lv_lconst (v := 0) hx hb dX7_isFarms_34 rfl ?_
    refine lv_ldc2 hx hb hown kc_60 dX7_isFarms_35 ?_
    refine rx_roi hd (fun v hv => W.runS (As := [.long (Int32.toInt64 x2), .long (0 : Int64), .long (20 : Int64)]) (rest := []) hcf (c_X7_in l dC dI cI cJ cQ fu    (Int32.toInt64 x2) (0 : Int64) (20 : Int64) v hv) (va_cwS 3 hts gX7_isFarms_X7_in rfl rfl rfl cd_X7_in ⟨(Nat.le_of_ble_eq_true rfl), (Nat.le_of_ble_eq_true rfl)⟩) (cq_R_S hK hP [] rfl) rfl rfl hl.1 rfl (lv_room (Nat.le_of_ble_eq_true rfl)) dX7_isFarms_38 ⟨Nat.le_refl _, Nat.le_refl _⟩) (fun u38 hd => ?_)
    exact rx_retRz hx hb hr hlocks hd dX7_isFarms_41
  refine rx_tab hx hb (1 : Int32) (1) rfl 42 dX7_isFarms_1 (by decide) (by decide) rfl rfl hd (fun hd => ?_) (fun n_1 hd => ?_)
  · exact b42   x2 hd _ (lv_sub hl [2] rfl)
  refine rx_tab hx hb (2 : Int32) (2) rfl 42 dX7_isFarms_1 (by decide) (by decide) rfl rfl hd (fun hd => ?_) (fun n_2 hd => ?_)
  · exact b42   x2 hd _ (lv_sub hl [2] rfl)
  refine rx_tab hx hb (3 : Int32) (3) rfl 52 dX7_isFarms_1 (by decide) (by decide) rfl rfl hd (fun hd => ?_) (fun n_3 hd => ?_)
  · refine lv_iload_n hx hb dX7_isFarms_52 rfl (lv_at hl 2 rfl) ?_
    refine lv_iconst (v := -1) hx hb dX7_isFarms_53 ki_m1 ?_
    refine rx_icmp_eq hx hb 65 dX7_isFarms_54 rfl hd (fun hd => ?_) (fun hd => ?_)
    · refine lv_iconst (v := 1) hx hb dX7_isFarms_65 ki_1 ?_
      refine lv_goto (tgt := 70) hx hb dX7_isFarms_66 rfl ?_
      exact rx_retRz hx hb hr hlocks hd dX7_isFarms_70
    refine lv_aload_n hx hb dX7_isFarms_57 rfl (lv_at hl 0 rfl) ?_
    refine lv_iload_n hx hb dX7_isFarms_58 rfl (lv_at hl 2 rfl) ?_
    refine rx_roi hd (fun v hv => W.runV (As := [.int x2]) (rest := []) hcf (c_X7_isPerson l dC dI cI cJ cQ fu a_m  s_m x2 v hv) (cwV 1 hts gX7_isFarms_X7_isPerson rfl rfl rfl cd_X7_isPerson ⟨(Nat.le_of_ble_eq_true rfl), (Nat.le_of_ble_eq_true rfl)⟩) (cq_R_V1 (q0 := 0) (ci := 6) hK hP rfl rfl) rfl rfl hl.1 rfl (lv_room (Nat.le_of_ble_eq_true rfl)) dX7_isFarms_59 ⟨Nat.le_refl _, Nat.le_refl _⟩) (fun u59 hd => ?_)
    refine rx_if_eq hx hb 69 dX7_isFarms_62 rfl hd (fun hd => ?_) (fun hd => ?_)
    · refine lv_iconst (v := 0) hx hb dX7_isFarms_69 ki_0 ?_
      exact rx_retRz hx hb hr hlocks hd dX7_isFarms_70
    refine lv_iconst (v := 1) hx hb dX7_isFarms_65 ki_1 ?_
    refine lv_goto (tgt := 70) hx hb dX7_isFarms_66 rfl ?_
    exact rx_retRz hx hb hr hlocks hd dX7_isFarms_70
  refine lv_tableOut (tgt := 71) hx hb dX7_isFarms_1 (by omega) rfl ?_
  refine lv_iconst (v := 0) hx hb dX7_isFarms_71 ki_0 ?_
  exact rx_retRz hx hb hr hlocks hd dX7_isFarms_72
set_option maxHeartbeats 8000000 in
set_option maxRecDepth 100000 in
theorem c_X7_farm (l : Launch) (dC : Nat → ClassId) (dI : Nat → Nat → Nat) (cI cJ cQ : ClassId) (fu : Nat) (a_m : Nat → Nat) (sz : Nat) (s_m : MS) (x1 : Int32) (x2 : Int32) (x3 : Int32) (r : Int32 × MS) (hd : fX7_farm fu  s_m x1 x2 x3 = some r) : mUi l yX7_farm wsX7_farm (gRm 3 68) [.ref (a_m 0), .int x1, .int x2, .int x3] (dC, dI) vwCl (gty cI cJ cQ) (wM cI cJ a_m s_m) sz (fun u : MS => (wM cI cJ a_m u)) r := by
  refine Met.ofW (cc := cX7_farm) (maxL := 4) (ret := (some .int)) (by decide) rfl ?_
  intro p e s m args below meth c s₁ B hml hv
  obtain ⟨hav, hsz, hP, hK, hD0⟩ := hv
  subst hsz
  have hD := hD0.self (sz := s.heap.size)
  generalize hAe : va_A (wM cI cJ a_m s_m) s.heap.size = A at hD ⊢
  have hA : ∀ q : Nat, s.heap.size ≤ q → A q := fun q h => by rw [← hAe]; exact Or.inr h
  have hS : va_S A s.heap s.heap [] := va_S.rf
  have hx := B.exec
  have hb := B.bytes
  have hr := B.returns
  have hts := atoms_spec (ws := wsX7_farm) B.pre
  have hown : s.vm.findClass RX7 = some m.cls := findClass_of_methodNamed B.named
  have hlocks := B.notSynchronized
  have hcf : CallFix p m c cX7_farm 4 s args wsX7_farm RX7 := ⟨hx, hb, hml, hown, hts⟩
  have kc_48 := hts (.constant RX7 48 (-1000000001)) (List.mem_of_getElem? (i := 1) rfl)
  have hg : entryFrame m args 4 = entryFrame m ([.ref (a_m 0), .int x1, .int x2, .int x3] : List Value).toArray 4 := by rw [hav]
  rw [hg, lg_entry_eq]
  have hl := lv_entry ([.ref (a_m 0), .int x1, .int x2, .int x3]) (n := 4) (Nat.le_of_ble_eq_true rfl)
  generalize (lg_sl ([.ref (a_m 0), .int x1, .int x2, .int x3]) ++ List.replicate (4 - (lg_sl ([.ref (a_m 0), .int x1, .int x2, .int x3])).length) Slot.unset).toArray = ls at hl ⊢
  have hl : lv_has ls 4 [(0, .ref (a_m 0)), (1, .int x1), (2, .int x2), (3, .int x3)] := hl
  clear hg
  unfold fX7_farm at hd
  have b29 : ∀ (s_m : MS), fX7_farm_b29 fu    s_m = some r → bk_U p l e (headSpec wsX7_farm (gRm 3 68)).room s m args below meth c (qUi below args s (dC, dI) vwCl (gty cI cJ cQ) A (fun u : MS => (wM cI cJ a_m u)) r) (dC, dI) vwCl A 4 (wM cI cJ a_m s_m) 29 [(0, .ref (a_m 0))] [] := by
    intro s_m hd
    intro H locs ls hP hD hS hl
    unfold fX7_farm_b29 at hd
    refine lv_aload_n hx hb dX7_farm_29 rfl (lv_at hl 0 rfl) ?_
    refine lv_ldc hx hb hown kc_48 dX7_farm_30 ?_
    refine rx_upi1 hd hD hS hA (fun v hv => va_runV (As := [.int (-1000000001 : Int32)]) (rest := []) hcf (c_X7_finds l dC dI cI cJ cQ fu a_m _  s_m (-1000000001 : Int32) v hv) (cwV 1 hts gX7_farm_X7_finds rfl rfl rfl cd_X7_finds ⟨(Nat.le_of_ble_eq_true rfl), (Nat.le_of_ble_eq_true rfl)⟩) (cq_U_V1 (q0 := 0) (ci := 6) hK hP hD rfl rfl) rfl rfl hl.1 rfl (lv_room (Nat.le_of_ble_eq_true rfl)) dX7_farm_32 ⟨Nat.le_refl _, Nat.le_refl _⟩) (fun u32 hd H locs hP hD hS => ?_)
    exact rx_retUi (u := u32.2) (w1 := (fun u : MS => (wM cI cJ a_m u))) hx hb hr hlocks hd hK hP hD hS dX7_farm_35
  refine lv_iload_n hx hb dX7_farm_0 rfl (lv_at hl 1 rfl) ?_
  refine rx_roi hd (fun v hv => W.runS (As := [.int x1]) (rest := []) hcf (c_X7_isFarm l dC dI cI cJ cQ fu    x1 v hv) (va_cwS 1 hts gX7_farm_X7_isFarm rfl rfl rfl cd_X7_isFarm ⟨(Nat.le_of_ble_eq_true rfl), (Nat.le_of_ble_eq_true rfl)⟩) (cq_R_S hK hP [] rfl) rfl rfl hl.1 rfl (lv_room (Nat.le_of_ble_eq_true rfl)) dX7_farm_1 ⟨Nat.le_refl _, Nat.le_refl _⟩) (fun u1 hd => ?_)
  refine rx_if_eq hx hb 29 dX7_farm_4 rfl hd (fun hd => ?_) (fun hd => ?_)
  · exact b29   s_m hd _ _ _ hP hD hS (lv_sub hl [0] rfl)
  refine lv_aload_n hx hb dX7_farm_7 rfl (lv_at hl 0 rfl) ?_
  refine lv_iload_n hx hb dX7_farm_8 rfl (lv_at hl 2 rfl) ?_
  refine lv_iload_n hx hb dX7_farm_9 rfl (lv_at hl 3 rfl) ?_
  refine rx_roi hd (fun v hv => W.runV (As := [.int x2, .int x3]) (rest := []) hcf (c_X7_isFarms l dC dI cI cJ cQ fu a_m  s_m x2 x3 v hv) (cwV 2 hts gX7_farm_X7_isFarms rfl rfl rfl cd_X7_isFarms ⟨(Nat.le_of_ble_eq_true rfl), (Nat.le_of_ble_eq_true rfl)⟩) (cq_R_V1 (q0 := 0) (ci := 6) hK hP rfl rfl) rfl rfl hl.1 rfl (lv_room (Nat.le_of_ble_eq_true rfl)) dX7_farm_10 ⟨Nat.le_refl _, Nat.le_refl _⟩) (fun u10 hd => ?_)
  refine rx_if_eq hx hb 29 dX7_farm_13 rfl hd (fun hd => ?_) (fun hd => ?_)
  · exact b29   s_m hd _ _ _ hP hD hS (lv_sub hl [0] rfl)
  refine lv_aload_n hx hb dX7_farm_16 rfl (lv_at hl 0 rfl) ?_
  refine lv_iload_n hx hb dX7_farm_17 rfl (lv_at hl 1 rfl) ?_
  refine lv_iload_n hx hb dX7_farm_18 rfl (lv_at hl 2 rfl) ?_
  refine rx_roi hd (fun v hv => W.runS (As := [.int x1, .int x2]) (rest := [.ref (a_m 0)]) hcf (c_X7_field l dC dI cI cJ cQ fu    x1 x2 v hv) (va_cwS 2 hts gX7_farm_X7_field rfl rfl rfl cd_X7_field ⟨(Nat.le_of_ble_eq_true rfl), (Nat.le_of_ble_eq_true rfl)⟩) (cq_R_S hK hP [] rfl) rfl rfl hl.1 rfl (lv_room (Nat.le_of_ble_eq_true rfl)) dX7_farm_19 ⟨Nat.le_refl _, Nat.le_refl _⟩) (fun u19 hd => ?_)
  refine lv_iload_n hx hb dX7_farm_22 rfl (lv_at hl 3 rfl) ?_
  refine rx_upi1 hd hD hS hA (fun v hv => va_runV (As := [.int u19, .int x3]) (rest := []) hcf (c_X7_becomes l dC dI cI cJ cQ fu a_m _  s_m u19 x3 v hv) (cwV 2 hts gX7_farm_X7_becomes rfl rfl rfl cd_X7_becomes ⟨(Nat.le_of_ble_eq_true rfl), (Nat.le_of_ble_eq_true rfl)⟩) (cq_U_V1 (q0 := 0) (ci := 6) hK hP hD rfl rfl) rfl rfl hl.1 rfl (lv_room (Nat.le_of_ble_eq_true rfl)) dX7_farm_23 ⟨Nat.le_refl _, Nat.le_refl _⟩) (fun u23 hd H locs hP hD hS => ?_)
  refine lv_goto (tgt := 35) hx hb dX7_farm_26 rfl ?_
  exact rx_retUi (u := u23.2) (w1 := (fun u : MS => (wM cI cJ a_m u))) hx hb hr hlocks hd hK hP hD hS dX7_farm_35
theorem fiX7_farmOf_X7 : ∀ w ∈ wsX70, w ∈ wsX7_farmOf := mem_r _ [19, 20, 21, 22, 23, 24, 25, 26, 27, 28, 29, 30, 31, 32, 33, 34, 35, 36] rfl
set_option maxHeartbeats 8000000 in
set_option maxRecDepth 100000 in
theorem c_X7_farmOf (l : Launch) (dC : Nat → ClassId) (dI : Nat → Nat → Nat) (cI cJ cQ : ClassId) (fu : Nat) (a_m : Nat → Nat) (sz : Nat) (s_m : MS) (x1 : Int32) (x2 : Int32) (r : Int32 × MS) (hd : fX7_farmOf fu  s_m x1 x2 = some r) : mUi l yX7_farmOf wsX7_farmOf (gRm 2 45) [.ref (a_m 0), .int x1, .int x2] (dC, dI) vwCl (gty cI cJ cQ) (wM cI cJ a_m s_m) sz (fun u : MS => (wM cI cJ a_m u)) r := by
  refine Met.ofW (cc := cX7_farmOf) (maxL := 3) (ret := (some .int)) (by decide) rfl ?_
  intro p e s m args below meth c s₁ B hml hv
  obtain ⟨hav, hsz, hP, hK, hD0⟩ := hv
  subst hsz
  have hD := hD0.self (sz := s.heap.size)
  generalize hAe : va_A (wM cI cJ a_m s_m) s.heap.size = A at hD ⊢
  have hA : ∀ q : Nat, s.heap.size ≤ q → A q := fun q h => by rw [← hAe]; exact Or.inr h
  have hS : va_S A s.heap s.heap [] := va_S.rf
  have hx := B.exec
  have hb := B.bytes
  have hr := B.returns
  have hts := atoms_spec (ws := wsX7_farmOf) B.pre
  have hown : s.vm.findClass RX7 = some m.cls := findClass_of_methodNamed B.named
  have hlocks := B.notSynchronized
  have hcf : CallFix p m c cX7_farmOf 3 s args wsX7_farmOf RX7 := ⟨hx, hb, hml, hown, hts⟩
  have fl_7 := hts (.fieldLink RX7 7 "BucketGiftModel" "s" "[I") (List.mem_of_getElem? (i := 2) rfl)
  have kc_48 := hts (.constant RX7 48 (-1000000001)) (List.mem_of_getElem? (i := 3) rfl)
  have kc_49 := hts (.constantLong RX7 49 (3)) (List.mem_of_getElem? (i := 1) rfl)
  have hg : entryFrame m args 3 = entryFrame m ([.ref (a_m 0), .int x1, .int x2] : List Value).toArray 3 := by rw [hav]
  rw [hg, lg_entry_eq]
  have hl := lv_entry ([.ref (a_m 0), .int x1, .int x2]) (n := 3) (Nat.le_of_ble_eq_true rfl)
  generalize (lg_sl ([.ref (a_m 0), .int x1, .int x2]) ++ List.replicate (3 - (lg_sl ([.ref (a_m 0), .int x1, .int x2])).length) Slot.unset).toArray = ls at hl ⊢
  have hl : lv_has ls 3 [(0, .ref (a_m 0)), (1, .int x1), (2, .int x2)] := hl
  clear hg
  unfold fX7_farmOf at hd
  have b32 : ∀ (s_m : MS), fX7_farmOf_b32 fu    s_m = some r → bk_U p l e (headSpec wsX7_farmOf (gRm 2 45)).room s m args below meth c (qUi below args s (dC, dI) vwCl (gty cI cJ cQ) A (fun u : MS => (wM cI cJ a_m u)) r) (dC, dI) vwCl A 3 (wM cI cJ a_m s_m) 32 [(0, .ref (a_m 0))] [] := by
    intro s_m hd
    intro H locs ls hP hD hS hl
    unfold fX7_farmOf_b32 at hd
    refine lv_aload_n hx hb dX7_farmOf_32 rfl (lv_at hl 0 rfl) ?_
    refine lv_ldc hx hb hown kc_48 dX7_farmOf_33 ?_
    refine rx_upi1 hd hD hS hA (fun v hv => va_runV (As := [.int (-1000000001 : Int32)]) (rest := []) hcf (c_X7_finds l dC dI cI cJ cQ fu a_m _  s_m (-1000000001 : Int32) v hv) (cwV 1 hts gX7_farmOf_X7_finds rfl rfl rfl cd_X7_finds ⟨(Nat.le_of_ble_eq_true rfl), (Nat.le_of_ble_eq_true rfl)⟩) (cq_U_V1 (q0 := 0) (ci := 6) hK hP hD rfl rfl) rfl rfl hl.1 rfl (lv_room (Nat.le_of_ble_eq_true rfl)) dX7_farmOf_35 ⟨Nat.le_refl _, Nat.le_refl _⟩) (fun u35 hd H locs hP hD hS => ?_)
    exact rx_retUi (u := u35.2) (w1 := (fun u : MS => (wM cI cJ a_m u))) hx hb hr hlocks hd hK hP hD hS dX7_farmOf_38
  refine lv_iload_n hx hb dX7_farmOf_0 rfl (lv_at hl 1 rfl) ?_
  refine rx_roi hd (fun v hv => W.runS (As := [.int x1]) (rest := []) hcf (c_X7_isFarm l dC dI cI cJ cQ fu    x1 v hv) (va_cwS 1 hts gX7_farmOf_X7_isFarm rfl rfl rfl cd_X7_isFarm ⟨(Nat.le_of_ble_eq_true rfl), (Nat.le_of_ble_eq_true rfl)⟩) (cq_R_S hK hP [] rfl) rfl rfl hl.1 rfl (lv_room (Nat.le_of_ble_eq_true rfl)) dX7_farmOf_1 ⟨Nat.le_refl _, Nat.le_refl _⟩) (fun u1 hd => ?_)
  refine rx_if_eq hx hb 32 dX7_farmOf_4 rfl hd (fun hd => ?_) (fun hd => ?_)
  · exact b32   s_m hd _ _ _ hP hD hS (lv_sub hl [0] rfl)
  refine lv_iload_n hx hb dX7_farmOf_7 rfl (lv_at hl 2 rfl) ?_
  refine lv_i2l hx hb dX7_farmOf_8 rfl ?_
  refine lv_lconst (v := 0) hx hb dX7_farmOf_9 rfl ?_
  refine lv_ldc2 hx hb hown kc_49 dX7_farmOf_10 ?_
  refine rx_roi hd (fun v hv => W.runS (As := [.long (Int32.toInt64 x2), .long (0 : Int64), .long (3 : Int64)]) (rest := []) hcf (c_X7_in l dC dI cI cJ cQ fu    (Int32.toInt64 x2) (0 : Int64) (3 : Int64) v hv) (va_cwS 3 hts gX7_farmOf_X7_in rfl rfl rfl cd_X7_in ⟨(Nat.le_of_ble_eq_true rfl), (Nat.le_of_ble_eq_true rfl)⟩) (cq_R_S hK hP [] rfl) rfl rfl hl.1 rfl (lv_room (Nat.le_of_ble_eq_true rfl)) dX7_farmOf_13 ⟨Nat.le_refl _, Nat.le_refl _⟩) (fun u13 hd => ?_)
  refine rx_if_eq hx hb 32 dX7_farmOf_16 rfl hd (fun hd => ?_) (fun hd => ?_)
  · exact b32   s_m hd _ _ _ hP hD hS (lv_sub hl [0] rfl)
  refine lv_aload_n hx hb dX7_farmOf_19 rfl (lv_at hl 0 rfl) ?_
  refine rx_get hx hb hts fiX7_farmOf_X7 hown hK hP 0 rfl rfl 0 (Nat.le_of_ble_eq_true rfl) fl_7 rfl rfl dX7_farmOf_20 ?_
  refine lv_iload_n hx hb dX7_farmOf_23 rfl (lv_at hl 1 rfl) ?_
  refine lv_iload_n hx hb dX7_farmOf_24 rfl (lv_at hl 2 rfl) ?_
  refine rx_roi hd (fun v hv => W.runS (As := [.int x1, .int x2]) (rest := [.ref (a_m 1)]) hcf (c_X7_field l dC dI cI cJ cQ fu    x1 x2 v hv) (va_cwS 2 hts gX7_farmOf_X7_field rfl rfl rfl cd_X7_field ⟨(Nat.le_of_ble_eq_true rfl), (Nat.le_of_ble_eq_true rfl)⟩) (cq_R_S hK hP [] rfl) rfl rfl hl.1 rfl (lv_room (Nat.le_of_ble_eq_true rfl)) dX7_farmOf_25 ⟨Nat.le_refl _, Nat.le_refl _⟩) (fun u25 hd => ?_)
  refine rx_iald hx hb hK hP 1 0 rfl rfl hd dX7_farmOf_28 (fun v28 hd => ?_)
  refine lv_goto (tgt := 38) hx hb dX7_farmOf_29 rfl ?_
  exact rx_retUi (u := s_m) (w1 := (fun u : MS => (wM cI cJ a_m u))) hx hb hr hlocks hd hK hP hD hS dX7_farmOf_38
set_option maxHeartbeats 8000000 in
set_option maxRecDepth 100000 in
theorem c_X7_water (l : Launch) (dC : Nat → ClassId) (dI : Nat → Nat → Nat) (cI cJ cQ : ClassId) (fu : Nat) (a_m : Nat → Nat) (sz : Nat) (s_m : MS) (x1 : Int32) (x2 : Int32) (r : Int32 × MS) (hd : fX7_water fu  s_m x1 x2 = some r) : mUi l yX7_water wsX7_water (gRm 1 25) [.ref (a_m 0), .int x1, .int x2] (dC, dI) vwCl (gty cI cJ cQ) (wM cI cJ a_m s_m) sz (fun u : MS => (wM cI cJ a_m u)) r := by
  refine Met.ofW (cc := cX7_water) (maxL := 4) (ret := (some .int)) (by decide) rfl ?_
  intro p e s m args below meth c s₁ B hml hv
  obtain ⟨hav, hsz, hP, hK, hD0⟩ := hv
  subst hsz
  have hD := hD0.self (sz := s.heap.size)
  generalize hAe : va_A (wM cI cJ a_m s_m) s.heap.size = A at hD ⊢
  have hA : ∀ q : Nat, s.heap.size ≤ q → A q := fun q h => by rw [← hAe]; exact Or.inr h
  have hS : va_S A s.heap s.heap [] := va_S.rf
  have hx := B.exec
  have hb := B.bytes
  have hr := B.returns
  have hts := atoms_spec (ws := wsX7_water) B.pre
  have hown : s.vm.findClass RX7 = some m.cls := findClass_of_methodNamed B.named
  have hlocks := B.notSynchronized
  have hcf : CallFix p m c cX7_water 4 s args wsX7_water RX7 := ⟨hx, hb, hml, hown, hts⟩
  have kc_82 := hts (.constantLong RX7 82 (2)) (List.mem_of_getElem? (i := 1) rfl)
  have kc_48 := hts (.constant RX7 48 (-1000000001)) (List.mem_of_getElem? (i := 5) rfl)
  have kc_55 := hts (.constantLong RX7 55 (5)) (List.mem_of_getElem? (i := 4) rfl)
  have kc_84 := hts (.constantLong RX7 84 (99)) (List.mem_of_getElem? (i := 3) rfl)
  have kc_62 := hts (.constantLong RX7 62 (9999)) (List.mem_of_getElem? (i := 2) rfl)
  have hg : entryFrame m args 4 = entryFrame m ([.ref (a_m 0), .int x1, .int x2] : List Value).toArray 4 := by rw [hav]
  rw [hg, lg_entry_eq]
  have hl := lv_entry ([.ref (a_m 0), .int x1, .int x2]) (n := 4) (Nat.le_of_ble_eq_true rfl)
  generalize (lg_sl ([.ref (a_m 0), .int x1, .int x2]) ++ List.replicate (4 - (lg_sl ([.ref (a_m 0), .int x1, .int x2])).length) Slot.unset).toArray = ls at hl ⊢
  have hl : lv_has ls 4 [(0, .ref (a_m 0)), (1, .int x1), (2, .int x2)] := hl
  clear hg
  unfold fX7_water at hd
  have b50 : ∀ (s_m : MS) (x1 : Int32) (x2 : Int32) (y0 : Int32), fX7_water_b50 fu    s_m x1 x2 y0 = some r → bk_U p l e (headSpec wsX7_water (gRm 1 25)).room s m args below meth c (qUi below args s (dC, dI) vwCl (gty cI cJ cQ) A (fun u : MS => (wM cI cJ a_m u)) r) (dC, dI) vwCl A 4 (wM cI cJ a_m s_m) 50 [(0, .ref (a_m 0)), (1, .int x1), (2, .int x2)] [.int y0] := by
    intro s_m x1 x2 y0 hd
    intro H locs ls hP hD hS hl
    unfold fX7_water_b50 at hd
    refine lv_istore_n (lv' := [(3, .int y0), (0, .ref (a_m 0)), (1, .int x1), (2, .int x2)]) hx hb dX7_water_50 rfl hl (Nat.le_of_ble_eq_true rfl) rfl (fun ls hl => ?_)
    refine lv_iload_n hx hb dX7_water_51 rfl (lv_at hl 0 rfl) ?_
    refine rx_if_eq hx hb 66 dX7_water_52 rfl hd (fun hd => ?_) (fun hd => ?_)
    · refine lv_aload_n hx hb dX7_water_66 rfl (lv_at hl 1 rfl) ?_
      refine lv_ldc hx hb hown kc_48 dX7_water_67 ?_
      refine rx_upi1 hd hD hS hA (fun v hv => va_runV (As := [.int (-1000000001 : Int32)]) (rest := []) hcf (c_X7_finds l dC dI cI cJ cQ fu a_m _  s_m (-1000000001 : Int32) v hv) (cwV 1 hts gX7_water_X7_finds rfl rfl rfl cd_X7_finds ⟨(Nat.le_of_ble_eq_true rfl), (Nat.le_of_ble_eq_true rfl)⟩) (cq_U_V1 (q0 := 0) (ci := 6) hK hP hD rfl rfl) rfl rfl hl.1 rfl (lv_room (Nat.le_of_ble_eq_true rfl)) dX7_water_69 ⟨Nat.le_refl _, Nat.le_refl _⟩) (fun u69 hd H locs hP hD hS => ?_)
      exact rx_retUi (u := u69.2) (w1 := (fun u : MS => (wM cI cJ a_m u))) hx hb hr hlocks hd hK hP hD hS dX7_water_72
    refine lv_aload_n hx hb dX7_water_55 rfl (lv_at hl 1 rfl) ?_
    refine lv_iconst (v := 2) hx hb dX7_water_56 ki_2 ?_
    refine lv_iload_n hx hb dX7_water_57 rfl (lv_at hl 2 rfl) ?_
    refine lv_iadd hx hb dX7_water_58 ?_
    refine lv_iload_n hx hb dX7_water_59 rfl (lv_at hl 3 rfl) ?_
    refine rx_upi1 hd hD hS hA (fun v hv => va_runV (As := [.int ((2 : Int32) + x1), .int x2]) (rest := []) hcf (c_X7_becomes l dC dI cI cJ cQ fu a_m _  s_m ((2 : Int32) + x1) x2 v hv) (cwV 2 hts gX7_water_X7_becomes rfl rfl rfl cd_X7_becomes ⟨(Nat.le_of_ble_eq_true rfl), (Nat.le_of_ble_eq_true rfl)⟩) (cq_U_V1 (q0 := 0) (ci := 6) hK hP hD rfl rfl) rfl rfl hl.1 rfl (lv_room (Nat.le_of_ble_eq_true rfl)) dX7_water_60 ⟨Nat.le_refl _, Nat.le_refl _⟩) (fun u60 hd H locs hP hD hS => ?_)
    refine lv_goto (tgt := 72) hx hb dX7_water_63 rfl ?_
    exact rx_retUi (u := u60.2) (w1 := (fun u : MS => (wM cI cJ a_m u))) hx hb hr hlocks hd hK hP hD hS dX7_water_72
  have b39 : ∀ (s_m : MS) (x1 : Int32) (x2 : Int32) (y0 : Int64) (y1 : Int64) (y2 : Int64), fX7_water_b39 fu    s_m x1 x2 y0 y1 y2 = some r → bk_U p l e (headSpec wsX7_water (gRm 1 25)).room s m args below meth c (qUi below args s (dC, dI) vwCl (gty cI cJ cQ) A (fun u : MS => (wM cI cJ a_m u)) r) (dC, dI) vwCl A 4 (wM cI cJ a_m s_m) 39 [(0, .ref (a_m 0)), (1, .int x1), (2, .int x2)] [.long y0, .long y1, .long y2] := by
    intro s_m x1 x2 y0 y1 y2 hd
    intro H locs ls hP hD hS hl
    unfold fX7_water_b39 at hd
    refine rx_roi hd (fun v hv => W.runS (As := [.long y2, .long y1, .long y0]) (rest := []) hcf (c_X7_in l dC dI cI cJ cQ fu    y2 y1 y0 v hv) (va_cwS 3 hts gX7_water_X7_in rfl rfl rfl cd_X7_in ⟨(Nat.le_of_ble_eq_true rfl), (Nat.le_of_ble_eq_true rfl)⟩) (cq_R_S hK hP [] rfl) rfl rfl hl.1 rfl (lv_room (Nat.le_of_ble_eq_true rfl)) dX7_water_39 ⟨Nat.le_refl _, Nat.le_refl _⟩) (fun u39 hd => ?_)
    refine rx_if_eq hx hb 49 dX7_water_42 rfl hd (fun hd => ?_) (fun hd => ?_)
    · refine lv_iconst (v := 0) hx hb dX7_water_49 ki_0 ?_
      exact b50   s_m x1 x2 (0 : Int32) hd _ _ _ hP hD hS (lv_sub hl [0, 1, 2] rfl)
    refine lv_iconst (v := 1) hx hb dX7_water_45 ki_1 ?_
    refine lv_goto (tgt := 50) hx hb dX7_water_46 rfl ?_
    exact b50   s_m x1 x2 (1 : Int32) hd _ _ _ hP hD hS (lv_sub hl [0, 1, 2] rfl)
  refine lv_iload_n hx hb dX7_water_0 rfl (lv_at hl 1 rfl) ?_
  refine lv_i2l hx hb dX7_water_1 rfl ?_
  refine lv_lconst (v := 0) hx hb dX7_water_2 rfl ?_
  refine lv_ldc2 hx hb hown kc_82 dX7_water_3 ?_
  refine rx_roi hd (fun v hv => W.runS (As := [.long (Int32.toInt64 x1), .long (0 : Int64), .long (2 : Int64)]) (rest := []) hcf (c_X7_in l dC dI cI cJ cQ fu    (Int32.toInt64 x1) (0 : Int64) (2 : Int64) v hv) (va_cwS 3 hts gX7_water_X7_in rfl rfl rfl cd_X7_in ⟨(Nat.le_of_ble_eq_true rfl), (Nat.le_of_ble_eq_true rfl)⟩) (cq_R_S hK hP [] rfl) rfl rfl hl.1 rfl (lv_room (Nat.le_of_ble_eq_true rfl)) dX7_water_6 ⟨Nat.le_refl _, Nat.le_refl _⟩) (fun u6 hd => ?_)
  refine rx_if_eq hx hb 49 dX7_water_9 rfl hd (fun hd => ?_) (fun hd => ?_)
  · refine lv_iconst (v := 0) hx hb dX7_water_49 ki_0 ?_
    exact b50   s_m x1 x2 (0 : Int32) hd _ _ _ hP hD hS (lv_sub hl [0, 1, 2] rfl)
  refine lv_iload_n hx hb dX7_water_12 rfl (lv_at hl 2 rfl) ?_
  refine lv_i2l hx hb dX7_water_13 rfl ?_
  refine lv_lconst (v := 0) hx hb dX7_water_14 rfl ?_
  refine lv_iload_n hx hb dX7_water_15 rfl (lv_at hl 1 rfl) ?_
  refine rx_if_ne hx hb 25 dX7_water_16 rfl hd (fun hd => ?_) (fun hd => ?_)
  · refine lv_iload_n hx hb dX7_water_25 rfl (lv_at hl 1 rfl) ?_
    refine lv_iconst (v := 1) hx hb dX7_water_26 ki_1 ?_
    refine rx_icmp_ne hx hb 36 dX7_water_27 rfl hd (fun hd => ?_) (fun hd => ?_)
    · refine lv_ldc2 hx hb hown kc_55 dX7_water_36 ?_
      exact b39   s_m x1 x2 (5 : Int64) (0 : Int64) (Int32.toInt64 x2) hd _ _ _ hP hD hS (lv_sub hl [0, 1, 2] rfl)
    refine lv_ldc2 hx hb hown kc_84 dX7_water_30 ?_
    refine lv_goto (tgt := 39) hx hb dX7_water_33 rfl ?_
    exact b39   s_m x1 x2 (99 : Int64) (0 : Int64) (Int32.toInt64 x2) hd _ _ _ hP hD hS (lv_sub hl [0, 1, 2] rfl)
  refine lv_ldc2 hx hb hown kc_62 dX7_water_19 ?_
  refine lv_goto (tgt := 39) hx hb dX7_water_22 rfl ?_
  exact b39   s_m x1 x2 (9999 : Int64) (0 : Int64) (Int32.toInt64 x2) hd _ _ _ hP hD hS (lv_sub hl [0, 1, 2] rfl)
theorem fiX7_adds_X7 : ∀ w ∈ wsX70, w ∈ wsX7_adds := mem_r _ [6, 7, 8, 9, 10, 11, 12, 13, 14, 15, 16, 17, 18, 19, 20, 21, 22, 23] rfl
set_option maxHeartbeats 8000000 in
set_option maxRecDepth 100000 in
theorem c_X7_adds (l : Launch) (dC : Nat → ClassId) (dI : Nat → Nat → Nat) (cI cJ cQ : ClassId) (fu : Nat) (a_m : Nat → Nat) (sz : Nat) (s_m : MS) (x1 : Int32) (r : Int32 × MS) (hd : fX7_adds fu  s_m x1 = some r) : mUi l yX7_adds wsX7_adds (gRm 1 21) [.ref (a_m 0), .int x1] (dC, dI) vwCl (gty cI cJ cQ) (wM cI cJ a_m s_m) sz (fun u : MS => (wM cI cJ a_m u)) r := by
  refine Met.ofW (cc := cX7_adds) (maxL := 3) (ret := (some .int)) (by decide) rfl ?_
  intro p e s m args below meth c s₁ B hml hv
  obtain ⟨hav, hsz, hP, hK, hD0⟩ := hv
  subst hsz
  have hD := hD0.self (sz := s.heap.size)
  generalize hAe : va_A (wM cI cJ a_m s_m) s.heap.size = A at hD ⊢
  have hA : ∀ q : Nat, s.heap.size ≤ q → A q := fun q h => by rw [← hAe]; exact Or.inr h
  have hS : va_S A s.heap s.heap [] := va_S.rf
  have hx := B.exec
  have hb := B.bytes
  have hr := B.returns
  have hts := atoms_spec (ws := wsX7_adds) B.pre
  have hown : s.vm.findClass RX7 = some m.cls := findClass_of_methodNamed B.named
  have hlocks := B.notSynchronized
  have hcf : CallFix p m c cX7_adds 3 s args wsX7_adds RX7 := ⟨hx, hb, hml, hown, hts⟩
  have fl_7 := hts (.fieldLink RX7 7 "BucketGiftModel" "s" "[I") (List.mem_of_getElem? (i := 1) rfl)
  have hg : entryFrame m args 3 = entryFrame m ([.ref (a_m 0), .int x1] : List Value).toArray 3 := by rw [hav]
  rw [hg, lg_entry_eq]
  have hl := lv_entry ([.ref (a_m 0), .int x1]) (n := 3) (Nat.le_of_ble_eq_true rfl)
  generalize (lg_sl ([.ref (a_m 0), .int x1]) ++ List.replicate (3 - (lg_sl ([.ref (a_m 0), .int x1])).length) Slot.unset).toArray = ls at hl ⊢
  have hl : lv_has ls 3 [(0, .ref (a_m 0)), (1, .int x1)] := hl
  clear hg
  unfold fX7_adds at hd
  refine lv_aload_n hx hb dX7_adds_0 rfl (lv_at hl 0 rfl) ?_
  refine rx_get hx hb hts fiX7_adds_X7 hown hK hP 0 rfl rfl 0 (Nat.le_of_ble_eq_true rfl) fl_7 rfl rfl dX7_adds_1 ?_
  refine lv_iconst (v := 0) hx hb dX7_adds_4 ki_0 ?_
  refine rx_iald hx hb hK hP 1 0 rfl rfl hd dX7_adds_5 (fun v5 hd => ?_)
  refine lv_istore_n (lv' := [(2, .int v5), (0, .ref (a_m 0)), (1, .int x1)]) hx hb dX7_adds_6 rfl hl (Nat.le_of_ble_eq_true rfl) rfl (fun ls hl => ?_)
  refine lv_aload_n hx hb dX7_adds_7 rfl (lv_at hl 1 rfl) ?_
  refine rx_get hx hb hts fiX7_adds_X7 hown hK hP 0 rfl rfl 0 (Nat.le_of_ble_eq_true rfl) fl_7 rfl rfl dX7_adds_8 ?_
  refine lv_iload_n hx hb dX7_adds_11 rfl (lv_at hl 0 rfl) ?_
  refine lv_iconst (v := 0) hx hb dX7_adds_12 ki_0 ?_
  refine rx_roi hd (fun v hv => W.runS (As := [.int v5, .int (0 : Int32)]) (rest := [.ref (a_m 1)]) hcf (c_X7_spot l dC dI cI cJ cQ fu    v5 (0 : Int32) v hv) (va_cwS 2 hts gX7_adds_X7_spot rfl rfl rfl cd_X7_spot ⟨(Nat.le_of_ble_eq_true rfl), (Nat.le_of_ble_eq_true rfl)⟩) (cq_R_S hK hP [] rfl) rfl rfl hl.1 rfl (lv_room (Nat.le_of_ble_eq_true rfl)) dX7_adds_13 ⟨Nat.le_refl _, Nat.le_refl _⟩) (fun u13 hd => ?_)
  refine lv_iload_n hx hb dX7_adds_16 rfl (lv_at hl 2 rfl) ?_
  refine rx_iast (wM cI cJ a_m (muS s_m (Int32.toNatClampNeg u13) x1)) hx hb hK hP hD hS 1 0 rfl rfl hd (wM_uS ..) dX7_adds_17 (fun hd H locs hP hD hS => ?_)
  refine lv_aload_n hx hb dX7_adds_18 rfl (lv_at hl 1 rfl) ?_
  refine rx_get hx hb hts fiX7_adds_X7 hown hK hP 0 rfl rfl 0 (Nat.le_of_ble_eq_true rfl) fl_7 rfl rfl dX7_adds_19 ?_
  refine lv_iload_n hx hb dX7_adds_22 rfl (lv_at hl 0 rfl) ?_
  refine lv_iconst (v := 1) hx hb dX7_adds_23 ki_1 ?_
  refine rx_roi hd (fun v hv => W.runS (As := [.int v5, .int (1 : Int32)]) (rest := [.ref (a_m 1)]) hcf (c_X7_spot l dC dI cI cJ cQ fu    v5 (1 : Int32) v hv) (va_cwS 2 hts gX7_adds_X7_spot rfl rfl rfl cd_X7_spot ⟨(Nat.le_of_ble_eq_true rfl), (Nat.le_of_ble_eq_true rfl)⟩) (cq_R_S hK hP [] rfl) rfl rfl hl.1 rfl (lv_room (Nat.le_of_ble_eq_true rfl)) dX7_adds_24 ⟨Nat.le_refl _, Nat.le_refl _⟩) (fun u24 hd => ?_)
  refine lv_iconst (v := 0) hx hb dX7_adds_27 ki_0 ?_
  refine rx_iast (wM cI cJ a_m (muS (muS s_m (Int32.toNatClampNeg u13) x1) (Int32.toNatClampNeg u24) (0 : Int32))) hx hb hK hP hD hS 1 0 rfl rfl hd (wM_uS ..) dX7_adds_28 (fun hd H locs hP hD hS => ?_)
  refine lv_aload_n hx hb dX7_adds_29 rfl (lv_at hl 1 rfl) ?_
  refine rx_get hx hb hts fiX7_adds_X7 hown hK hP 0 rfl rfl 0 (Nat.le_of_ble_eq_true rfl) fl_7 rfl rfl dX7_adds_30 ?_
  refine lv_iload_n hx hb dX7_adds_33 rfl (lv_at hl 0 rfl) ?_
  refine lv_iconst (v := 2) hx hb dX7_adds_34 ki_2 ?_
  refine rx_roi hd (fun v hv => W.runS (As := [.int v5, .int (2 : Int32)]) (rest := [.ref (a_m 1)]) hcf (c_X7_spot l dC dI cI cJ cQ fu    v5 (2 : Int32) v hv) (va_cwS 2 hts gX7_adds_X7_spot rfl rfl rfl cd_X7_spot ⟨(Nat.le_of_ble_eq_true rfl), (Nat.le_of_ble_eq_true rfl)⟩) (cq_R_S hK hP [] rfl) rfl rfl hl.1 rfl (lv_room (Nat.le_of_ble_eq_true rfl)) dX7_adds_35 ⟨Nat.le_refl _, Nat.le_refl _⟩) (fun u35 hd => ?_)
  refine lv_iload_n hx hb dX7_adds_38 rfl (lv_at hl 0 rfl) ?_
  refine rx_iast (wM cI cJ a_m (muS (muS (muS s_m (Int32.toNatClampNeg u13) x1) (Int32.toNatClampNeg u24) (0 : Int32)) (Int32.toNatClampNeg u35) v5)) hx hb hK hP hD hS 1 0 rfl rfl hd (wM_uS ..) dX7_adds_39 (fun hd H locs hP hD hS => ?_)
  refine lv_aload_n hx hb dX7_adds_40 rfl (lv_at hl 1 rfl) ?_
  refine rx_get hx hb hts fiX7_adds_X7 hown hK hP 0 rfl rfl 0 (Nat.le_of_ble_eq_true rfl) fl_7 rfl rfl dX7_adds_41 ?_
  refine lv_iload_n hx hb dX7_adds_44 rfl (lv_at hl 0 rfl) ?_
  refine lv_iconst (v := 3) hx hb dX7_adds_45 ki_3 ?_
  refine rx_roi hd (fun v hv => W.runS (As := [.int v5, .int (3 : Int32)]) (rest := [.ref (a_m 1)]) hcf (c_X7_spot l dC dI cI cJ cQ fu    v5 (3 : Int32) v hv) (va_cwS 2 hts gX7_adds_X7_spot rfl rfl rfl cd_X7_spot ⟨(Nat.le_of_ble_eq_true rfl), (Nat.le_of_ble_eq_true rfl)⟩) (cq_R_S hK hP [] rfl) rfl rfl hl.1 rfl (lv_room (Nat.le_of_ble_eq_true rfl)) dX7_adds_46 ⟨Nat.le_refl _, Nat.le_refl _⟩) (fun u46 hd => ?_)
  refine lv_iconst (v := 0) hx hb dX7_adds_49 ki_0 ?_
  refine rx_iast (wM cI cJ a_m (muS (muS (muS (muS s_m (Int32.toNatClampNeg u13) x1) (Int32.toNatClampNeg u24) (0 : Int32)) (Int32.toNatClampNeg u35) v5) (Int32.toNatClampNeg u46) (0 : Int32))) hx hb hK hP hD hS 1 0 rfl rfl hd (wM_uS ..) dX7_adds_50 (fun hd H locs hP hD hS => ?_)
  refine lv_aload_n hx hb dX7_adds_51 rfl (lv_at hl 1 rfl) ?_
  refine rx_get hx hb hts fiX7_adds_X7 hown hK hP 0 rfl rfl 0 (Nat.le_of_ble_eq_true rfl) fl_7 rfl rfl dX7_adds_52 ?_
  refine lv_iconst (v := 0) hx hb dX7_adds_55 ki_0 ?_
  refine lv_dup2_11 hx hb dX7_adds_56 rfl rfl ?_
  refine rx_iald hx hb hK hP 1 0 rfl rfl hd dX7_adds_57 (fun v57 hd => ?_)
  refine lv_iconst (v := 1) hx hb dX7_adds_58 ki_1 ?_
  refine lv_iadd hx hb dX7_adds_59 ?_
  refine rx_iast (wM cI cJ a_m (muS (muS (muS (muS (muS s_m (Int32.toNatClampNeg u13) x1) (Int32.toNatClampNeg u24) (0 : Int32)) (Int32.toNatClampNeg u35) v5) (Int32.toNatClampNeg u46) (0 : Int32)) (Int32.toNatClampNeg (0 : Int32)) (v57 + (1 : Int32)))) hx hb hK hP hD hS 1 0 rfl rfl hd (wM_uS ..) dX7_adds_60 (fun hd H locs hP hD hS => ?_)
  refine lv_iload_n hx hb dX7_adds_61 rfl (lv_at hl 0 rfl) ?_
  exact rx_retUi (u := (muS (muS (muS (muS (muS s_m (Int32.toNatClampNeg u13) x1) (Int32.toNatClampNeg u24) (0 : Int32)) (Int32.toNatClampNeg u35) v5) (Int32.toNatClampNeg u46) (0 : Int32)) (Int32.toNatClampNeg (0 : Int32)) (v57 + (1 : Int32)))) (w1 := (fun u : MS => (wM cI cJ a_m u))) hx hb hr hlocks hd hK hP hD hS dX7_adds_62
theorem fiX7_person_X7 : ∀ w ∈ wsX70, w ∈ wsX7_person := mem_r _ [24, 25, 26, 27, 28, 29, 30, 31, 32, 33, 34, 35, 36, 37, 38, 39, 40, 41] rfl
set_option maxHeartbeats 8000000 in
set_option maxRecDepth 100000 in
theorem c_X7_person (l : Launch) (dC : Nat → ClassId) (dI : Nat → Nat → Nat) (cI cJ cQ : ClassId) (fu : Nat) (a_m : Nat → Nat) (sz : Nat) (s_m : MS) (x1 : Int32) (r : Int32 × MS) (hd : fX7_person fu  s_m x1 = some r) : mUi l yX7_person wsX7_person (gRm 2 45) [.ref (a_m 0), .int x1] (dC, dI) vwCl (gty cI cJ cQ) (wM cI cJ a_m s_m) sz (fun u : MS => (wM cI cJ a_m u)) r := by
  refine Met.ofW (cc := cX7_person) (maxL := 2) (ret := (some .int)) (by decide) rfl ?_
  intro p e s m args below meth c s₁ B hml hv
  obtain ⟨hav, hsz, hP, hK, hD0⟩ := hv
  subst hsz
  have hD := hD0.self (sz := s.heap.size)
  generalize hAe : va_A (wM cI cJ a_m s_m) s.heap.size = A at hD ⊢
  have hA : ∀ q : Nat, s.heap.size ≤ q → A q := fun q h => by rw [← hAe]; exact Or.inr h
  have hS : va_S A s.heap s.heap [] := va_S.rf
  have hx := B.exec
  have hb := B.bytes
  have hr := B.returns
  have hts := atoms_spec (ws := wsX7_person) B.pre
  have hown : s.vm.findClass RX7 = some m.cls := findClass_of_methodNamed B.named
  have hlocks := B.notSynchronized
  have hcf : CallFix p m c cX7_person 2 s args wsX7_person RX7 := ⟨hx, hb, hml, hown, hts⟩
  have fl_7 := hts (.fieldLink RX7 7 "BucketGiftModel" "s" "[I") (List.mem_of_getElem? (i := 2) rfl)
  have kc_89 := hts (.constant RX7 89 (-1000000002)) (List.mem_of_getElem? (i := 3) rfl)
  have kc_48 := hts (.constant RX7 48 (-1000000001)) (List.mem_of_getElem? (i := 1) rfl)
  have hg : entryFrame m args 2 = entryFrame m ([.ref (a_m 0), .int x1] : List Value).toArray 2 := by rw [hav]
  rw [hg, lg_entry_eq]
  have hl := lv_entry ([.ref (a_m 0), .int x1]) (n := 2) (Nat.le_of_ble_eq_true rfl)
  generalize (lg_sl ([.ref (a_m 0), .int x1]) ++ List.replicate (2 - (lg_sl ([.ref (a_m 0), .int x1])).length) Slot.unset).toArray = ls at hl ⊢
  have hl : lv_has ls 2 [(0, .ref (a_m 0)), (1, .int x1)] := hl
  clear hg
  unfold fX7_person at hd
  refine lv_iload_n hx hb dX7_person_0 rfl (lv_at hl 1 rfl) ?_
  refine rx_roi hd (fun v hv => W.runS (As := [.int x1]) (rest := []) hcf (c_X7_isKind l dC dI cI cJ cQ fu    x1 v hv) (va_cwS 1 hts gX7_person_X7_isKind rfl rfl rfl cd_X7_isKind ⟨(Nat.le_of_ble_eq_true rfl), (Nat.le_of_ble_eq_true rfl)⟩) (cq_R_S hK hP [] rfl) rfl rfl hl.1 rfl (lv_room (Nat.le_of_ble_eq_true rfl)) dX7_person_1 ⟨Nat.le_refl _, Nat.le_refl _⟩) (fun u1 hd => ?_)
  refine rx_if_ne hx hb 14 dX7_person_4 rfl hd (fun hd => ?_) (fun hd => ?_)
  · refine lv_aload_n hx hb dX7_person_14 rfl (lv_at hl 0 rfl) ?_
    refine rx_get hx hb hts fiX7_person_X7 hown hK hP 0 rfl rfl 0 (Nat.le_of_ble_eq_true rfl) fl_7 rfl rfl dX7_person_15 ?_
    refine lv_iconst (v := 0) hx hb dX7_person_18 ki_0 ?_
    refine rx_iald hx hb hK hP 1 0 rfl rfl hd dX7_person_19 (fun v19 hd => ?_)
    refine lv_bipush (v := 8) hx hb dX7_person_20 kb_8 ?_
    refine rx_icmp_ne hx hb 34 dX7_person_22 rfl hd (fun hd => ?_) (fun hd => ?_)
    · refine lv_aload_n hx hb dX7_person_34 rfl (lv_at hl 0 rfl) ?_
      refine lv_iload_n hx hb dX7_person_35 rfl (lv_at hl 1 rfl) ?_
      refine rx_upi1 hd hD hS hA (fun v hv => va_runV (As := [.int x1]) (rest := []) hcf (c_X7_adds l dC dI cI cJ cQ fu a_m _  s_m x1 v hv) (cwV 1 hts gX7_person_X7_adds rfl rfl rfl cd_X7_adds ⟨(Nat.le_of_ble_eq_true rfl), (Nat.le_of_ble_eq_true rfl)⟩) (cq_U_V1 (q0 := 0) (ci := 6) hK hP hD rfl rfl) rfl rfl hl.1 rfl (lv_room (Nat.le_of_ble_eq_true rfl)) dX7_person_36 ⟨Nat.le_refl _, Nat.le_refl _⟩) (fun u36 hd H locs hP hD hS => ?_)
      exact rx_retUi (u := u36.2) (w1 := (fun u : MS => (wM cI cJ a_m u))) hx hb hr hlocks hd hK hP hD hS dX7_person_39
    refine lv_aload_n hx hb dX7_person_25 rfl (lv_at hl 0 rfl) ?_
    refine lv_ldc hx hb hown kc_89 dX7_person_26 ?_
    refine rx_upi1 hd hD hS hA (fun v hv => va_runV (As := [.int (-1000000002 : Int32)]) (rest := []) hcf (c_X7_finds l dC dI cI cJ cQ fu a_m _  s_m (-1000000002 : Int32) v hv) (cwV 1 hts gX7_person_X7_finds rfl rfl rfl cd_X7_finds ⟨(Nat.le_of_ble_eq_true rfl), (Nat.le_of_ble_eq_true rfl)⟩) (cq_U_V1 (q0 := 0) (ci := 6) hK hP hD rfl rfl) rfl rfl hl.1 rfl (lv_room (Nat.le_of_ble_eq_true rfl)) dX7_person_28 ⟨Nat.le_refl _, Nat.le_refl _⟩) (fun u28 hd H locs hP hD hS => ?_)
    refine lv_goto (tgt := 39) hx hb dX7_person_31 rfl ?_
    exact rx_retUi (u := u28.2) (w1 := (fun u : MS => (wM cI cJ a_m u))) hx hb hr hlocks hd hK hP hD hS dX7_person_39
  refine lv_aload_n hx hb dX7_person_7 rfl (lv_at hl 0 rfl) ?_
  refine lv_ldc hx hb hown kc_48 dX7_person_8 ?_
  refine rx_upi1 hd hD hS hA (fun v hv => va_runV (As := [.int (-1000000001 : Int32)]) (rest := []) hcf (c_X7_finds l dC dI cI cJ cQ fu a_m _  s_m (-1000000001 : Int32) v hv) (cwV 1 hts gX7_person_X7_finds rfl rfl rfl cd_X7_finds ⟨(Nat.le_of_ble_eq_true rfl), (Nat.le_of_ble_eq_true rfl)⟩) (cq_U_V1 (q0 := 0) (ci := 6) hK hP hD rfl rfl) rfl rfl hl.1 rfl (lv_room (Nat.le_of_ble_eq_true rfl)) dX7_person_10 ⟨Nat.le_refl _, Nat.le_refl _⟩) (fun u10 hd H locs hP hD hS => ?_)
  exact rx_retUi (u := u10.2) (w1 := (fun u : MS => (wM cI cJ a_m u))) hx hb hr hlocks hd hK hP hD hS dX7_person_13
set_option maxHeartbeats 8000000 in
set_option maxRecDepth 100000 in
theorem c_X7_ones (l : Launch) (dC : Nat → ClassId) (dI : Nat → Nat → Nat) (cI cJ cQ : ClassId) (fu : Nat)   (x0 : Int32) (r : Int32) (hd : fX7_ones fu   x0 = some r) : mRi l yX7_ones wsX7_ones (gRm 0 0) [.int x0] (cq_R (dC, dI) vwCl (gty cI cJ cQ) ([] : va_W)) r := by
  refine Met.ofW (cc := cX7_ones) (maxL := 3) (ret := (some .int)) (by decide) rfl ?_
  intro p e s m args below meth c s₁ B hml hv
  obtain ⟨hav, hP, hK⟩ := hv
  have hx := B.exec
  have hb := B.bytes
  have hr := B.returns
  have hts := atoms_spec (ws := wsX7_ones) B.pre
  have hown : s.vm.findClass RX7 = some m.cls := findClass_of_methodNamed B.named
  have hlocks := B.notSynchronized
  have hcf : CallFix p m c cX7_ones 3 s args wsX7_ones RX7 := ⟨hx, hb, hml, hown, hts⟩
  have hg : entryFrame m args 3 = entryFrame m ([.int x0] : List Value).toArray 3 := by rw [hav]
  rw [hg, lg_entry_eq]
  have hl := lv_entry ([.int x0]) (n := 3) (Nat.le_of_ble_eq_true rfl)
  generalize (lg_sl ([.int x0]) ++ List.replicate (3 - (lg_sl ([.int x0])).length) Slot.unset).toArray = ls at hl ⊢
  have hl : lv_has ls 3 [(0, .int x0)] := hl
  clear hg
  unfold fX7_ones at hd
  have b4 : ∀ (x1 : Int32) (x2 : Int32), fX7_ones_b4 fu     x1 x2 = some r → bk_R p l e (headSpec wsX7_ones (gRm 0 0)).room s m args below meth c (qRi below args s r) 3 4 [(1, .int x1), (2, .int x2)] [] := by
    have L : ∀ (n : Nat) (x1 : Int32) (x2 : Int32), g_lp (fun _ _ => none) (fX7_ones_b4B fu    ) n x1 x2 = some r → bk_R p l e (headSpec wsX7_ones (gRm 0 0)).room s m args below meth c (qRi below args s r) 3 4 [(1, .int x1), (2, .int x2)] [] := by
      intro n
      induction n with
      | zero => intro x1 x2 hd; exact absurd hd (by intro h; cases h)
      | succ n k4 =>
        intro x1 x2 hd
        intro ls hl
        have hd : fX7_ones_b4B fu     (g_lp (fun _ _ => none) (fX7_ones_b4B fu    ) n) x1 x2 = some r := hd
        unfold fX7_ones_b4B at hd
        refine lv_iload_n hx hb dX7_ones_4 rfl (lv_at hl 1 rfl) ?_
        refine rx_if_eq hx hb 20 dX7_ones_5 rfl hd (fun hd => ?_) (fun hd => ?_)
        · refine lv_iload_n hx hb dX7_ones_20 rfl (lv_at hl 0 rfl) ?_
          exact rx_retRi hx hb hr hlocks hd dX7_ones_21
        refine rx_iinc (lv' := fun z => (1, .int z) :: [(2, .int x2)]) hx hb (j := 0) dX7_ones_8 hl rfl ki_1 hd (Nat.le_of_ble_eq_true rfl) (fun _ => rfl) (fun x1_8 hd ls hl => ?_)
        refine lv_iload_n hx hb dX7_ones_11 rfl (lv_at hl 1 rfl) ?_
        refine lv_iload_n hx hb dX7_ones_12 rfl (lv_at hl 1 rfl) ?_
        refine lv_iconst (v := 1) hx hb dX7_ones_13 ki_1 ?_
        refine lv_isub hx hb dX7_ones_14 ?_
        refine lv_iand hx hb dX7_ones_15 ?_
        refine rx_topi hd (fun x2_16 hd => ?_)
        refine lv_istore_n (lv' := [(2, .int x2_16), (1, .int x1_8)]) hx hb dX7_ones_16 rfl hl (Nat.le_of_ble_eq_true rfl) rfl (fun ls hl => ?_)
        refine lv_goto (tgt := 4) hx hb dX7_ones_17 rfl ?_
        exact k4 x1_8 x2_16 hd _ (lv_sub hl [1, 0] rfl)
    exact fun x1 x2 => L fu x1 x2
  refine lv_iconst (v := 0) hx hb dX7_ones_0 ki_0 ?_
  refine lv_istore_n (lv' := [(1, .int (0 : Int32)), (0, .int x0)]) hx hb dX7_ones_1 rfl hl (Nat.le_of_ble_eq_true rfl) rfl (fun ls hl => ?_)
  refine lv_iload_n hx hb dX7_ones_2 rfl (lv_at hl 1 rfl) ?_
  refine lv_istore_n (lv' := [(2, .int x0), (1, .int (0 : Int32)), (0, .int x0)]) hx hb dX7_ones_3 rfl hl (Nat.le_of_ble_eq_true rfl) rfl (fun ls hl => ?_)
  exact b4   (0 : Int32) x0 hd _ (lv_sub hl [1, 0] rfl)
set_option maxHeartbeats 8000000 in
set_option maxRecDepth 100000 in
theorem c_X7_deserves (l : Launch) (dC : Nat → ClassId) (dI : Nat → Nat → Nat) (cI cJ cQ : ClassId) (fu : Nat) (a_m : Nat → Nat) (s_m : MS) (x1 : Int32) (r : Int32) (hd : fX7_deserves fu  s_m x1 = some r) : mRi l yX7_deserves wsX7_deserves (gRm 2 43) [.ref (a_m 0), .int x1] (cq_R (dC, dI) vwCl (gty cI cJ cQ) (wM cI cJ a_m s_m)) r := by
  refine Met.ofW (cc := cX7_deserves) (maxL := 6) (ret := (some .int)) (by decide) rfl ?_
  intro p e s m args below meth c s₁ B hml hv
  obtain ⟨hav, hP, hK⟩ := hv
  have hx := B.exec
  have hb := B.bytes
  have hr := B.returns
  have hts := atoms_spec (ws := wsX7_deserves) B.pre
  have hown : s.vm.findClass RX7 = some m.cls := findClass_of_methodNamed B.named
  have hlocks := B.notSynchronized
  have hcf : CallFix p m c cX7_deserves 6 s args wsX7_deserves RX7 := ⟨hx, hb, hml, hown, hts⟩
  have hg : entryFrame m args 6 = entryFrame m ([.ref (a_m 0), .int x1] : List Value).toArray 6 := by rw [hav]
  rw [hg, lg_entry_eq]
  have hl := lv_entry ([.ref (a_m 0), .int x1]) (n := 6) (Nat.le_of_ble_eq_true rfl)
  generalize (lg_sl ([.ref (a_m 0), .int x1]) ++ List.replicate (6 - (lg_sl ([.ref (a_m 0), .int x1])).length) Slot.unset).toArray = ls at hl ⊢
  have hl : lv_has ls 6 [(0, .ref (a_m 0)), (1, .int x1)] := hl
  clear hg
  unfold fX7_deserves at hd
  have b40 : ∀ (x1 : Int32) (x2 : Int32) (x3 : Int32) (y0 : Int32), fX7_deserves_b40 fu s_m   x1 x2 x3 y0 = some r → bk_R p l e (headSpec wsX7_deserves (gRm 2 43)).room s m args below meth c (qRi below args s r) 6 40 [(0, .ref (a_m 0)), (1, .int x1), (2, .int x2), (3, .int x3)] [.int y0] := by
    intro x1 x2 x3 y0 hd
    intro ls hl
    unfold fX7_deserves_b40 at hd
    refine lv_istore (lv' := [(5, .int y0), (0, .ref (a_m 0)), (1, .int x1), (2, .int x2), (3, .int x3)]) hx hb dX7_deserves_40 hl (Nat.le_of_ble_eq_true rfl) rfl (fun ls hl => ?_)
    refine lv_aload_n hx hb dX7_deserves_42 rfl (lv_at hl 1 rfl) ?_
    refine lv_iload_n hx hb dX7_deserves_43 rfl (lv_at hl 2 rfl) ?_
    refine lv_iconst (v := 0) hx hb dX7_deserves_44 ki_0 ?_
    refine rx_roi hd (fun v hv => W.runV (As := [.int x1, .int (0 : Int32)]) (rest := []) hcf (c_X7_its l dC dI cI cJ cQ fu a_m  s_m x1 (0 : Int32) v hv) (cwV 2 hts gX7_deserves_X7_its rfl rfl rfl cd_X7_its ⟨(Nat.le_of_ble_eq_true rfl), (Nat.le_of_ble_eq_true rfl)⟩) (cq_R_V1 (q0 := 0) (ci := 6) hK hP rfl rfl) rfl rfl hl.1 rfl (lv_room (Nat.le_of_ble_eq_true rfl)) dX7_deserves_45 ⟨Nat.le_refl _, Nat.le_refl _⟩) (fun u45 hd => ?_)
    refine rx_tab hx hb (1 : Int32) (1) rfl 84 dX7_deserves_48 (by decide) (by decide) rfl rfl hd (fun hd => ?_) (fun n_1 hd => ?_)
    · refine lv_iload hx hb dX7_deserves_84 (lv_at hl 0 rfl) ?_
      refine lv_iconst (v := 3) hx hb dX7_deserves_86 ki_3 ?_
      refine lv_iadd hx hb dX7_deserves_87 ?_
      exact rx_retRi hx hb hr hlocks hd dX7_deserves_88
    refine rx_tab hx hb (2 : Int32) (2) rfl 89 dX7_deserves_48 (by decide) (by decide) rfl rfl hd (fun hd => ?_) (fun n_2 hd => ?_)
    · refine lv_iload hx hb dX7_deserves_89 (lv_at hl 0 rfl) ?_
      refine lv_iconst (v := 2) hx hb dX7_deserves_91 ki_2 ?_
      refine rx_idiv hx hb dX7_deserves_92 hd (fun hd => ?_)
      exact rx_retRi hx hb hr hlocks hd dX7_deserves_93
    refine rx_tab hx hb (3 : Int32) (3) rfl 94 dX7_deserves_48 (by decide) (by decide) rfl rfl hd (fun hd => ?_) (fun n_3 hd => ?_)
    · refine lv_iload_n hx hb dX7_deserves_94 rfl (lv_at hl 4 rfl) ?_
      refine rx_if_ne hx hb 103 dX7_deserves_95 rfl hd (fun hd => ?_) (fun hd => ?_)
      · refine lv_iload hx hb dX7_deserves_103 (lv_at hl 0 rfl) ?_
        exact rx_retRi hx hb hr hlocks hd dX7_deserves_105
      refine lv_bipush (v := 12) hx hb dX7_deserves_98 kb_12 ?_
      refine lv_goto (tgt := 105) hx hb dX7_deserves_100 rfl ?_
      exact rx_retRi hx hb hr hlocks hd dX7_deserves_105
    refine rx_tab hx hb (4 : Int32) (4) rfl 106 dX7_deserves_48 (by decide) (by decide) rfl rfl hd (fun hd => ?_) (fun n_4 hd => ?_)
    · refine lv_iload hx hb dX7_deserves_106 (lv_at hl 0 rfl) ?_
      refine lv_iconst (v := 1) hx hb dX7_deserves_108 ki_1 ?_
      refine lv_iadd hx hb dX7_deserves_109 ?_
      exact rx_retRi hx hb hr hlocks hd dX7_deserves_110
    refine rx_tab hx hb (5 : Int32) (5) rfl 111 dX7_deserves_48 (by decide) (by decide) rfl rfl hd (fun hd => ?_) (fun n_5 hd => ?_)
    · refine lv_iload_n hx hb dX7_deserves_111 rfl (lv_at hl 3 rfl) ?_
      refine lv_iconst (v := 2) hx hb dX7_deserves_112 ki_2 ?_
      refine rx_irem hx hb dX7_deserves_113 hd (fun hd => ?_)
      refine lv_iconst (v := 1) hx hb dX7_deserves_114 ki_1 ?_
      refine rx_icmp_ne hx hb 122 dX7_deserves_115 rfl hd (fun hd => ?_) (fun hd => ?_)
      · refine lv_iload hx hb dX7_deserves_122 (lv_at hl 0 rfl) ?_
        refine lv_iconst (v := 2) hx hb dX7_deserves_124 ki_2 ?_
        refine rx_idiv hx hb dX7_deserves_125 hd (fun hd => ?_)
        exact rx_retRi hx hb hr hlocks hd dX7_deserves_126
      refine lv_iconst (v := 0) hx hb dX7_deserves_118 ki_0 ?_
      refine lv_goto (tgt := 126) hx hb dX7_deserves_119 rfl ?_
      exact rx_retRi hx hb hr hlocks hd dX7_deserves_126
    refine lv_tableOut (tgt := 127) hx hb dX7_deserves_48 (by omega) rfl ?_
    refine lv_iload hx hb dX7_deserves_127 (lv_at hl 0 rfl) ?_
    exact rx_retRi hx hb hr hlocks hd dX7_deserves_129
  refine lv_aload_n hx hb dX7_deserves_0 rfl (lv_at hl 0 rfl) ?_
  refine lv_iload_n hx hb dX7_deserves_1 rfl (lv_at hl 1 rfl) ?_
  refine lv_iconst (v := 1) hx hb dX7_deserves_2 ki_1 ?_
  refine rx_roi hd (fun v hv => W.runV (As := [.int x1, .int (1 : Int32)]) (rest := []) hcf (c_X7_its l dC dI cI cJ cQ fu a_m  s_m x1 (1 : Int32) v hv) (cwV 2 hts gX7_deserves_X7_its rfl rfl rfl cd_X7_its ⟨(Nat.le_of_ble_eq_true rfl), (Nat.le_of_ble_eq_true rfl)⟩) (cq_R_V1 (q0 := 0) (ci := 6) hK hP rfl rfl) rfl rfl hl.1 rfl (lv_room (Nat.le_of_ble_eq_true rfl)) dX7_deserves_3 ⟨Nat.le_refl _, Nat.le_refl _⟩) (fun u3 hd => ?_)
  refine lv_istore_n (lv' := [(2, .int u3), (0, .ref (a_m 0)), (1, .int x1)]) hx hb dX7_deserves_6 rfl hl (Nat.le_of_ble_eq_true rfl) rfl (fun ls hl => ?_)
  refine lv_iload_n hx hb dX7_deserves_7 rfl (lv_at hl 0 rfl) ?_
  refine lv_iconst (v := 4) hx hb dX7_deserves_8 ki_4 ?_
  refine lv_ishr hx hb dX7_deserves_9 ?_
  refine rx_roi hd (fun v hv => W.runS (As := [.int (u3 >>> ((4 : Int32) &&& (31 : Int32)))]) (rest := []) hcf (c_X7_ones l dC dI cI cJ cQ fu    (u3 >>> ((4 : Int32) &&& (31 : Int32))) v hv) (va_cwS 1 hts gX7_deserves_X7_ones rfl rfl rfl cd_X7_ones ⟨(Nat.le_of_ble_eq_true rfl), (Nat.le_of_ble_eq_true rfl)⟩) (cq_R_S hK hP [] rfl) rfl rfl hl.1 rfl (lv_room (Nat.le_of_ble_eq_true rfl)) dX7_deserves_10 ⟨Nat.le_refl _, Nat.le_refl _⟩) (fun u10 hd => ?_)
  refine lv_istore_n (lv' := [(3, .int u10), (2, .int u3), (0, .ref (a_m 0)), (1, .int x1)]) hx hb dX7_deserves_13 rfl hl (Nat.le_of_ble_eq_true rfl) rfl (fun ls hl => ?_)
  refine lv_iconst (v := 4) hx hb dX7_deserves_14 ki_4 ?_
  refine lv_iconst (v := 2) hx hb dX7_deserves_15 ki_2 ?_
  refine lv_iload_n hx hb dX7_deserves_16 rfl (lv_at hl 1 rfl) ?_
  refine lv_bipush (v := 15) hx hb dX7_deserves_17 kb_15 ?_
  refine lv_iand hx hb dX7_deserves_19 ?_
  refine rx_roi hd (fun v hv => W.runS (As := [.int (u3 &&& (15 : Int32))]) (rest := [.int (2 : Int32), .int (4 : Int32)]) hcf (c_X7_ones l dC dI cI cJ cQ fu    (u3 &&& (15 : Int32)) v hv) (va_cwS 1 hts gX7_deserves_X7_ones rfl rfl rfl cd_X7_ones ⟨(Nat.le_of_ble_eq_true rfl), (Nat.le_of_ble_eq_true rfl)⟩) (cq_R_S hK hP [] rfl) rfl rfl hl.1 rfl (lv_room (Nat.le_of_ble_eq_true rfl)) dX7_deserves_20 ⟨Nat.le_refl _, Nat.le_refl _⟩) (fun u20 hd => ?_)
  refine lv_imul hx hb dX7_deserves_23 ?_
  refine lv_iadd hx hb dX7_deserves_24 ?_
  refine lv_iload_n hx hb dX7_deserves_25 rfl (lv_at hl 0 rfl) ?_
  refine lv_isub hx hb dX7_deserves_26 ?_
  refine rx_topi hd (fun x4_27 hd => ?_)
  refine lv_istore (lv' := [(4, .int x4_27), (3, .int u10), (2, .int u3), (0, .ref (a_m 0)), (1, .int x1)]) hx hb dX7_deserves_27 hl (Nat.le_of_ble_eq_true rfl) rfl (fun ls hl => ?_)
  refine lv_iload hx hb dX7_deserves_29 (lv_at hl 0 rfl) ?_
  refine rx_if_ge hx hb 38 dX7_deserves_31 rfl hd (fun hd => ?_) (fun hd => ?_)
  · refine lv_iload hx hb dX7_deserves_38 (lv_at hl 0 rfl) ?_
    exact b40   x1 u3 u10 x4_27 hd _ (lv_sub hl [3, 4, 2, 1] rfl)
  refine lv_iconst (v := 0) hx hb dX7_deserves_34 ki_0 ?_
  refine lv_goto (tgt := 40) hx hb dX7_deserves_35 rfl ?_
  exact b40   x1 u3 u10 (0 : Int32) hd _ (lv_sub hl [3, 4, 2, 1] rfl)
theorem fiX7_gives_X7 : ∀ w ∈ wsX70, w ∈ wsX7_gives := mem_r _ [17, 18, 19, 20, 21, 22, 23, 24, 25, 26, 27, 28, 29, 30, 31, 32, 33, 34] rfl
set_option maxHeartbeats 8000000 in
set_option maxRecDepth 100000 in
theorem c_X7_gives (l : Launch) (dC : Nat → ClassId) (dI : Nat → Nat → Nat) (cI cJ cQ : ClassId) (fu : Nat) (a_m : Nat → Nat) (s_m : MS) (x1 : Int32) (r : Int32) (hd : fX7_gives fu  s_m x1 = some r) : mRi l yX7_gives wsX7_gives (gRm 3 68) [.ref (a_m 0), .int x1] (cq_R (dC, dI) vwCl (gty cI cJ cQ) (wM cI cJ a_m s_m)) r := by
  refine Met.ofW (cc := cX7_gives) (maxL := 4) (ret := (some .int)) (by decide) rfl ?_
  intro p e s m args below meth c s₁ B hml hv
  obtain ⟨hav, hP, hK⟩ := hv
  have hx := B.exec
  have hb := B.bytes
  have hr := B.returns
  have hts := atoms_spec (ws := wsX7_gives) B.pre
  have hown : s.vm.findClass RX7 = some m.cls := findClass_of_methodNamed B.named
  have hlocks := B.notSynchronized
  have hcf : CallFix p m c cX7_gives 4 s args wsX7_gives RX7 := ⟨hx, hb, hml, hown, hts⟩
  have fl_7 := hts (.fieldLink RX7 7 "BucketGiftModel" "s" "[I") (List.mem_of_getElem? (i := 1) rfl)
  have hg : entryFrame m args 4 = entryFrame m ([.ref (a_m 0), .int x1] : List Value).toArray 4 := by rw [hav]
  rw [hg, lg_entry_eq]
  have hl := lv_entry ([.ref (a_m 0), .int x1]) (n := 4) (Nat.le_of_ble_eq_true rfl)
  generalize (lg_sl ([.ref (a_m 0), .int x1]) ++ List.replicate (4 - (lg_sl ([.ref (a_m 0), .int x1])).length) Slot.unset).toArray = ls at hl ⊢
  have hl : lv_has ls 4 [(0, .ref (a_m 0)), (1, .int x1)] := hl
  clear hg
  unfold fX7_gives at hd
  have b60 : ∀ (x1 : Int32) (x3 : Int32), fX7_gives_b60 fu s_m   x1 x3 = some r → bk_R p l e (headSpec wsX7_gives (gRm 3 68)).room s m args below meth c (qRi below args s r) 4 60 [(0, .ref (a_m 0)), (1, .int x1), (3, .int x3)] [] := by
    intro x1 x3 hd
    intro ls hl
    unfold fX7_gives_b60 at hd
    refine lv_iload_n hx hb dX7_gives_60 rfl (lv_at hl 2 rfl) ?_
    refine lv_aload_n hx hb dX7_gives_61 rfl (lv_at hl 0 rfl) ?_
    refine lv_iload_n hx hb dX7_gives_62 rfl (lv_at hl 1 rfl) ?_
    refine lv_iconst (v := 3) hx hb dX7_gives_63 ki_3 ?_
    refine rx_roi hd (fun v hv => W.runV (As := [.int x1, .int (3 : Int32)]) (rest := [.int x3]) hcf (c_X7_its l dC dI cI cJ cQ fu a_m  s_m x1 (3 : Int32) v hv) (cwV 2 hts gX7_gives_X7_its rfl rfl rfl cd_X7_its ⟨(Nat.le_of_ble_eq_true rfl), (Nat.le_of_ble_eq_true rfl)⟩) (cq_R_V1 (q0 := 0) (ci := 6) hK hP rfl rfl) rfl rfl hl.1 rfl (lv_room (Nat.le_of_ble_eq_true rfl)) dX7_gives_64 ⟨Nat.le_refl _, Nat.le_refl _⟩) (fun u64 hd => ?_)
    refine lv_ishr hx hb dX7_gives_67 ?_
    refine rx_topi hd (fun x3_68 hd => ?_)
    refine lv_istore_n (lv' := [(3, .int x3_68), (0, .ref (a_m 0)), (1, .int x1)]) hx hb dX7_gives_68 rfl hl (Nat.le_of_ble_eq_true rfl) rfl (fun ls hl => ?_)
    refine lv_iload_n hx hb dX7_gives_69 rfl (lv_at hl 0 rfl) ?_
    refine lv_aload_n hx hb dX7_gives_70 rfl (lv_at hl 1 rfl) ?_
    refine rx_get hx hb hts fiX7_gives_X7 hown hK hP 0 rfl rfl 0 (Nat.le_of_ble_eq_true rfl) fl_7 rfl rfl dX7_gives_71 ?_
    refine lv_iconst (v := 2) hx hb dX7_gives_74 ki_2 ?_
    refine rx_iald hx hb hK hP 1 0 rfl rfl hd dX7_gives_75 (fun v75 hd => ?_)
    refine rx_icmp_le hx hb 88 dX7_gives_76 rfl hd (fun hd => ?_) (fun hd => ?_)
    · refine lv_iload_n hx hb dX7_gives_88 rfl (lv_at hl 0 rfl) ?_
      exact rx_retRi hx hb hr hlocks hd dX7_gives_89
    refine lv_aload_n hx hb dX7_gives_79 rfl (lv_at hl 1 rfl) ?_
    refine rx_get hx hb hts fiX7_gives_X7 hown hK hP 0 rfl rfl 0 (Nat.le_of_ble_eq_true rfl) fl_7 rfl rfl dX7_gives_80 ?_
    refine lv_iconst (v := 2) hx hb dX7_gives_83 ki_2 ?_
    refine rx_iald hx hb hK hP 1 0 rfl rfl hd dX7_gives_84 (fun v84 hd => ?_)
    refine lv_goto (tgt := 89) hx hb dX7_gives_85 rfl ?_
    exact rx_retRi hx hb hr hlocks hd dX7_gives_89
  refine lv_aload_n hx hb dX7_gives_0 rfl (lv_at hl 0 rfl) ?_
  refine lv_iload_n hx hb dX7_gives_1 rfl (lv_at hl 1 rfl) ?_
  refine lv_iconst (v := 2) hx hb dX7_gives_2 ki_2 ?_
  refine rx_roi hd (fun v hv => W.runV (As := [.int x1, .int (2 : Int32)]) (rest := []) hcf (c_X7_its l dC dI cI cJ cQ fu a_m  s_m x1 (2 : Int32) v hv) (cwV 2 hts gX7_gives_X7_its rfl rfl rfl cd_X7_its ⟨(Nat.le_of_ble_eq_true rfl), (Nat.le_of_ble_eq_true rfl)⟩) (cq_R_V1 (q0 := 0) (ci := 6) hK hP rfl rfl) rfl rfl hl.1 rfl (lv_room (Nat.le_of_ble_eq_true rfl)) dX7_gives_3 ⟨Nat.le_refl _, Nat.le_refl _⟩) (fun u3 hd => ?_)
  refine lv_istore_n (lv' := [(2, .int u3), (0, .ref (a_m 0)), (1, .int x1)]) hx hb dX7_gives_6 rfl hl (Nat.le_of_ble_eq_true rfl) rfl (fun ls hl => ?_)
  refine lv_aload_n hx hb dX7_gives_7 rfl (lv_at hl 1 rfl) ?_
  refine lv_iload_n hx hb dX7_gives_8 rfl (lv_at hl 2 rfl) ?_
  refine rx_roi hd (fun v hv => W.runV (As := [.int x1]) (rest := []) hcf (c_X7_deserves l dC dI cI cJ cQ fu a_m  s_m x1 v hv) (cwV 1 hts gX7_gives_X7_deserves rfl rfl rfl cd_X7_deserves ⟨(Nat.le_of_ble_eq_true rfl), (Nat.le_of_ble_eq_true rfl)⟩) (cq_R_V1 (q0 := 0) (ci := 6) hK hP rfl rfl) rfl rfl hl.1 rfl (lv_room (Nat.le_of_ble_eq_true rfl)) dX7_gives_9 ⟨Nat.le_refl _, Nat.le_refl _⟩) (fun u9 hd => ?_)
  refine lv_aload_n hx hb dX7_gives_12 rfl (lv_at hl 1 rfl) ?_
  refine rx_get hx hb hts fiX7_gives_X7 hown hK hP 0 rfl rfl 0 (Nat.le_of_ble_eq_true rfl) fl_7 rfl rfl dX7_gives_13 ?_
  refine lv_iconst (v := 4) hx hb dX7_gives_16 ki_4 ?_
  refine rx_iald hx hb hK hP 1 0 rfl rfl hd dX7_gives_17 (fun v17 hd => ?_)
  refine lv_iadd hx hb dX7_gives_18 ?_
  refine rx_topi hd (fun x3_19 hd => ?_)
  refine lv_istore_n (lv' := [(3, .int x3_19), (2, .int u3), (0, .ref (a_m 0)), (1, .int x1)]) hx hb dX7_gives_19 rfl hl (Nat.le_of_ble_eq_true rfl) rfl (fun ls hl => ?_)
  refine lv_aload_n hx hb dX7_gives_20 rfl (lv_at hl 2 rfl) ?_
  refine lv_iload_n hx hb dX7_gives_21 rfl (lv_at hl 3 rfl) ?_
  refine lv_iconst (v := 0) hx hb dX7_gives_22 ki_0 ?_
  refine rx_roi hd (fun v hv => W.runV (As := [.int x1, .int (0 : Int32)]) (rest := []) hcf (c_X7_its l dC dI cI cJ cQ fu a_m  s_m x1 (0 : Int32) v hv) (cwV 2 hts gX7_gives_X7_its rfl rfl rfl cd_X7_its ⟨(Nat.le_of_ble_eq_true rfl), (Nat.le_of_ble_eq_true rfl)⟩) (cq_R_V1 (q0 := 0) (ci := 6) hK hP rfl rfl) rfl rfl hl.1 rfl (lv_room (Nat.le_of_ble_eq_true rfl)) dX7_gives_23 ⟨Nat.le_refl _, Nat.le_refl _⟩) (fun u23 hd => ?_)
  refine lv_iconst (v := 4) hx hb dX7_gives_26 ki_4 ?_
  refine rx_icmp_ne hx hb 60 dX7_gives_27 rfl hd (fun hd => ?_) (fun hd => ?_)
  · exact b60   x1 x3_19 hd _ (lv_sub hl [2, 3, 0] rfl)
  refine lv_iload_n hx hb dX7_gives_30 rfl (lv_at hl 1 rfl) ?_
  refine lv_iload_n hx hb dX7_gives_31 rfl (lv_at hl 3 rfl) ?_
  refine rx_icmp_eq hx hb 60 dX7_gives_32 rfl hd (fun hd => ?_) (fun hd => ?_)
  · exact b60   x1 x3_19 hd _ (lv_sub hl [2, 3, 0] rfl)
  refine lv_aload_n hx hb dX7_gives_35 rfl (lv_at hl 2 rfl) ?_
  refine lv_iload_n hx hb dX7_gives_36 rfl (lv_at hl 1 rfl) ?_
  refine rx_roi hd (fun v hv => W.runV (As := [.int u3]) (rest := []) hcf (c_X7_deserves l dC dI cI cJ cQ fu a_m  s_m u3 v hv) (cwV 1 hts gX7_gives_X7_deserves rfl rfl rfl cd_X7_deserves ⟨(Nat.le_of_ble_eq_true rfl), (Nat.le_of_ble_eq_true rfl)⟩) (cq_R_V1 (q0 := 0) (ci := 6) hK hP rfl rfl) rfl rfl hl.1 rfl (lv_room (Nat.le_of_ble_eq_true rfl)) dX7_gives_37 ⟨Nat.le_refl _, Nat.le_refl _⟩) (fun u37 hd => ?_)
  refine lv_aload_n hx hb dX7_gives_40 rfl (lv_at hl 2 rfl) ?_
  refine rx_get hx hb hts fiX7_gives_X7 hown hK hP 0 rfl rfl 0 (Nat.le_of_ble_eq_true rfl) fl_7 rfl rfl dX7_gives_41 ?_
  refine lv_iconst (v := 4) hx hb dX7_gives_44 ki_4 ?_
  refine rx_iald hx hb hK hP 1 0 rfl rfl hd dX7_gives_45 (fun v45 hd => ?_)
  refine lv_iadd hx hb dX7_gives_46 ?_
  refine lv_iconst (v := 1) hx hb dX7_gives_47 ki_1 ?_
  refine lv_isub hx hb dX7_gives_48 ?_
  refine rx_topi hd (fun x3_49 hd => ?_)
  refine lv_istore_n (lv' := [(3, .int x3_49), (2, .int u3), (0, .ref (a_m 0)), (1, .int x1)]) hx hb dX7_gives_49 rfl hl (Nat.le_of_ble_eq_true rfl) rfl (fun ls hl => ?_)
  refine lv_iload_n hx hb dX7_gives_50 rfl (lv_at hl 0 rfl) ?_
  refine rx_if_ge hx hb 58 dX7_gives_51 rfl hd (fun hd => ?_) (fun hd => ?_)
  · refine lv_iload_n hx hb dX7_gives_58 rfl (lv_at hl 0 rfl) ?_
    refine lv_istore_n (lv' := [(3, .int x3_49), (2, .int u3), (0, .ref (a_m 0)), (1, .int x1)]) hx hb dX7_gives_59 rfl hl (Nat.le_of_ble_eq_true rfl) rfl (fun ls hl => ?_)
    exact b60   x1 x3_49 hd _ (lv_sub hl [2, 3, 0] rfl)
  refine lv_iconst (v := 0) hx hb dX7_gives_54 ki_0 ?_
  refine lv_goto (tgt := 59) hx hb dX7_gives_55 rfl ?_
  refine lv_istore_n (lv' := [(3, .int (0 : Int32)), (2, .int u3), (0, .ref (a_m 0)), (1, .int x1)]) hx hb dX7_gives_59 rfl hl (Nat.le_of_ble_eq_true rfl) rfl (fun ls hl => ?_)
  exact b60   x1 (0 : Int32) hd _ (lv_sub hl [2, 3, 0] rfl)
set_option maxHeartbeats 8000000 in
set_option maxRecDepth 100000 in
theorem c_X7_of (l : Launch) (dC : Nat → ClassId) (dI : Nat → Nat → Nat) (cI cJ cQ : ClassId) (fu : Nat) (a_m : Nat → Nat) (sz : Nat) (s_m : MS) (x1 : Int32) (x2 : Int32) (r : Int32 × MS) (hd : fX7_of fu  s_m x1 x2 = some r) : mUi l yX7_of wsX7_of (gRm 4 91) [.ref (a_m 0), .int x1, .int x2] (dC, dI) vwCl (gty cI cJ cQ) (wM cI cJ a_m s_m) sz (fun u : MS => (wM cI cJ a_m u)) r := by
  refine Met.ofW (cc := cX7_of) (maxL := 3) (ret := (some .int)) (by decide) rfl ?_
  intro p e s m args below meth c s₁ B hml hv
  obtain ⟨hav, hsz, hP, hK, hD0⟩ := hv
  subst hsz
  have hD := hD0.self (sz := s.heap.size)
  generalize hAe : va_A (wM cI cJ a_m s_m) s.heap.size = A at hD ⊢
  have hA : ∀ q : Nat, s.heap.size ≤ q → A q := fun q h => by rw [← hAe]; exact Or.inr h
  have hS : va_S A s.heap s.heap [] := va_S.rf
  have hx := B.exec
  have hb := B.bytes
  have hr := B.returns
  have hts := atoms_spec (ws := wsX7_of) B.pre
  have hown : s.vm.findClass RX7 = some m.cls := findClass_of_methodNamed B.named
  have hlocks := B.notSynchronized
  have hcf : CallFix p m c cX7_of 3 s args wsX7_of RX7 := ⟨hx, hb, hml, hown, hts⟩
  have kc_48 := hts (.constant RX7 48 (-1000000001)) (List.mem_of_getElem? (i := 2) rfl)
  have kc_55 := hts (.constantLong RX7 55 (5)) (List.mem_of_getElem? (i := 1) rfl)
  have hg : entryFrame m args 3 = entryFrame m ([.ref (a_m 0), .int x1, .int x2] : List Value).toArray 3 := by rw [hav]
  rw [hg, lg_entry_eq]
  have hl := lv_entry ([.ref (a_m 0), .int x1, .int x2]) (n := 3) (Nat.le_of_ble_eq_true rfl)
  generalize (lg_sl ([.ref (a_m 0), .int x1, .int x2]) ++ List.replicate (3 - (lg_sl ([.ref (a_m 0), .int x1, .int x2])).length) Slot.unset).toArray = ls at hl ⊢
  have hl : lv_has ls 3 [(0, .ref (a_m 0)), (1, .int x1), (2, .int x2)] := hl
  clear hg
  unfold fX7_of at hd
  have b20 : ∀ (s_m : MS), fX7_of_b20 fu    s_m = some r → bk_U p l e (headSpec wsX7_of (gRm 4 91)).room s m args below meth c (qUi below args s (dC, dI) vwCl (gty cI cJ cQ) A (fun u : MS => (wM cI cJ a_m u)) r) (dC, dI) vwCl A 3 (wM cI cJ a_m s_m) 20 [(0, .ref (a_m 0))] [] := by
    intro s_m hd
    intro H locs ls hP hD hS hl
    unfold fX7_of_b20 at hd
    refine lv_aload_n hx hb dX7_of_20 rfl (lv_at hl 0 rfl) ?_
    refine lv_ldc hx hb hown kc_48 dX7_of_21 ?_
    refine rx_upi1 hd hD hS hA (fun v hv => va_runV (As := [.int (-1000000001 : Int32)]) (rest := []) hcf (c_X7_finds l dC dI cI cJ cQ fu a_m _  s_m (-1000000001 : Int32) v hv) (cwV 1 hts gX7_of_X7_finds rfl rfl rfl cd_X7_finds ⟨(Nat.le_of_ble_eq_true rfl), (Nat.le_of_ble_eq_true rfl)⟩) (cq_U_V1 (q0 := 0) (ci := 6) hK hP hD rfl rfl) rfl rfl hl.1 rfl (lv_room (Nat.le_of_ble_eq_true rfl)) dX7_of_23 ⟨Nat.le_refl _, Nat.le_refl _⟩) (fun u23 hd H locs hP hD hS => ?_)
    exact rx_retUi (u := u23.2) (w1 := (fun u : MS => (wM cI cJ a_m u))) hx hb hr hlocks hd hK hP hD hS dX7_of_26
  refine lv_aload_n hx hb dX7_of_0 rfl (lv_at hl 0 rfl) ?_
  refine lv_iload_n hx hb dX7_of_1 rfl (lv_at hl 1 rfl) ?_
  refine rx_roi hd (fun v hv => W.runV (As := [.int x1]) (rest := []) hcf (c_X7_isPerson l dC dI cI cJ cQ fu a_m  s_m x1 v hv) (cwV 1 hts gX7_of_X7_isPerson rfl rfl rfl cd_X7_isPerson ⟨(Nat.le_of_ble_eq_true rfl), (Nat.le_of_ble_eq_true rfl)⟩) (cq_R_V1 (q0 := 0) (ci := 6) hK hP rfl rfl) rfl rfl hl.1 rfl (lv_room (Nat.le_of_ble_eq_true rfl)) dX7_of_2 ⟨Nat.le_refl _, Nat.le_refl _⟩) (fun u2 hd => ?_)
  refine rx_if_eq hx hb 20 dX7_of_5 rfl hd (fun hd => ?_) (fun hd => ?_)
  · exact b20   s_m hd _ _ _ hP hD hS (lv_sub hl [0] rfl)
  refine lv_iload_n hx hb dX7_of_8 rfl (lv_at hl 2 rfl) ?_
  refine lv_i2l hx hb dX7_of_9 rfl ?_
  refine lv_lconst (v := 0) hx hb dX7_of_10 rfl ?_
  refine lv_ldc2 hx hb hown kc_55 dX7_of_11 ?_
  refine rx_roi hd (fun v hv => W.runS (As := [.long (Int32.toInt64 x2), .long (0 : Int64), .long (5 : Int64)]) (rest := []) hcf (c_X7_in l dC dI cI cJ cQ fu    (Int32.toInt64 x2) (0 : Int64) (5 : Int64) v hv) (va_cwS 3 hts gX7_of_X7_in rfl rfl rfl cd_X7_in ⟨(Nat.le_of_ble_eq_true rfl), (Nat.le_of_ble_eq_true rfl)⟩) (cq_R_S hK hP [] rfl) rfl rfl hl.1 rfl (lv_room (Nat.le_of_ble_eq_true rfl)) dX7_of_14 ⟨Nat.le_refl _, Nat.le_refl _⟩) (fun u14 hd => ?_)
  refine rx_if_ne hx hb 27 dX7_of_17 rfl hd (fun hd => ?_) (fun hd => ?_)
  · refine lv_iload_n hx hb dX7_of_27 rfl (lv_at hl 2 rfl) ?_
    refine lv_iconst (v := 3) hx hb dX7_of_28 ki_3 ?_
    refine rx_icmp_gt hx hb 41 dX7_of_29 rfl hd (fun hd => ?_) (fun hd => ?_)
    · refine lv_iload_n hx hb dX7_of_41 rfl (lv_at hl 2 rfl) ?_
      refine lv_iconst (v := 4) hx hb dX7_of_42 ki_4 ?_
      refine rx_icmp_ne hx hb 54 dX7_of_43 rfl hd (fun hd => ?_) (fun hd => ?_)
      · refine lv_aload_n hx hb dX7_of_54 rfl (lv_at hl 0 rfl) ?_
        refine lv_iload_n hx hb dX7_of_55 rfl (lv_at hl 1 rfl) ?_
        refine rx_roi hd (fun v hv => W.runV (As := [.int x1]) (rest := []) hcf (c_X7_gives l dC dI cI cJ cQ fu a_m  s_m x1 v hv) (cwV 1 hts gX7_of_X7_gives rfl rfl rfl cd_X7_gives ⟨(Nat.le_of_ble_eq_true rfl), (Nat.le_of_ble_eq_true rfl)⟩) (cq_R_V1 (q0 := 0) (ci := 6) hK hP rfl rfl) rfl rfl hl.1 rfl (lv_room (Nat.le_of_ble_eq_true rfl)) dX7_of_56 ⟨Nat.le_refl _, Nat.le_refl _⟩) (fun u56 hd => ?_)
        exact rx_retUi (u := s_m) (w1 := (fun u : MS => (wM cI cJ a_m u))) hx hb hr hlocks hd hK hP hD hS dX7_of_59
      refine lv_aload_n hx hb dX7_of_46 rfl (lv_at hl 0 rfl) ?_
      refine lv_iload_n hx hb dX7_of_47 rfl (lv_at hl 1 rfl) ?_
      refine rx_roi hd (fun v hv => W.runV (As := [.int x1]) (rest := []) hcf (c_X7_deserves l dC dI cI cJ cQ fu a_m  s_m x1 v hv) (cwV 1 hts gX7_of_X7_deserves rfl rfl rfl cd_X7_deserves ⟨(Nat.le_of_ble_eq_true rfl), (Nat.le_of_ble_eq_true rfl)⟩) (cq_R_V1 (q0 := 0) (ci := 6) hK hP rfl rfl) rfl rfl hl.1 rfl (lv_room (Nat.le_of_ble_eq_true rfl)) dX7_of_48 ⟨Nat.le_refl _, Nat.le_refl _⟩) (fun u48 hd => ?_)
      refine lv_goto (tgt := 59) hx hb dX7_of_51 rfl ?_
      exact rx_retUi (u := s_m) (w1 := (fun u : MS => (wM cI cJ a_m u))) hx hb hr hlocks hd hK hP hD hS dX7_of_59
    refine lv_aload_n hx hb dX7_of_32 rfl (lv_at hl 0 rfl) ?_
    refine lv_iload_n hx hb dX7_of_33 rfl (lv_at hl 1 rfl) ?_
    refine lv_iload_n hx hb dX7_of_34 rfl (lv_at hl 2 rfl) ?_
    refine rx_roi hd (fun v hv => W.runV (As := [.int x1, .int x2]) (rest := []) hcf (c_X7_its l dC dI cI cJ cQ fu a_m  s_m x1 x2 v hv) (cwV 2 hts gX7_of_X7_its rfl rfl rfl cd_X7_its ⟨(Nat.le_of_ble_eq_true rfl), (Nat.le_of_ble_eq_true rfl)⟩) (cq_R_V1 (q0 := 0) (ci := 6) hK hP rfl rfl) rfl rfl hl.1 rfl (lv_room (Nat.le_of_ble_eq_true rfl)) dX7_of_35 ⟨Nat.le_refl _, Nat.le_refl _⟩) (fun u35 hd => ?_)
    refine lv_goto (tgt := 59) hx hb dX7_of_38 rfl ?_
    exact rx_retUi (u := s_m) (w1 := (fun u : MS => (wM cI cJ a_m u))) hx hb hr hlocks hd hK hP hD hS dX7_of_59
  exact b20   s_m hd _ _ _ hP hD hS (lv_sub hl [0] rfl)
set_option maxHeartbeats 8000000 in
set_option maxRecDepth 100000 in
theorem c_X7_set (l : Launch) (dC : Nat → ClassId) (dI : Nat → Nat → Nat) (cI cJ cQ : ClassId) (fu : Nat) (a_m : Nat → Nat) (sz : Nat) (s_m : MS) (x1 : Int32) (x2 : Int32) (x3 : Int32) (r : Int32 × MS) (hd : fX7_set fu  s_m x1 x2 x3 = some r) : mUi l yX7_set wsX7_set (gRm 2 46) [.ref (a_m 0), .int x1, .int x2, .int x3] (dC, dI) vwCl (gty cI cJ cQ) (wM cI cJ a_m s_m) sz (fun u : MS => (wM cI cJ a_m u)) r := by
  refine Met.ofW (cc := cX7_set) (maxL := 5) (ret := (some .int)) (by decide) rfl ?_
  intro p e s m args below meth c s₁ B hml hv
  obtain ⟨hav, hsz, hP, hK, hD0⟩ := hv
  subst hsz
  have hD := hD0.self (sz := s.heap.size)
  generalize hAe : va_A (wM cI cJ a_m s_m) s.heap.size = A at hD ⊢
  have hA : ∀ q : Nat, s.heap.size ≤ q → A q := fun q h => by rw [← hAe]; exact Or.inr h
  have hS : va_S A s.heap s.heap [] := va_S.rf
  have hx := B.exec
  have hb := B.bytes
  have hr := B.returns
  have hts := atoms_spec (ws := wsX7_set) B.pre
  have hown : s.vm.findClass RX7 = some m.cls := findClass_of_methodNamed B.named
  have hlocks := B.notSynchronized
  have hcf : CallFix p m c cX7_set 5 s args wsX7_set RX7 := ⟨hx, hb, hml, hown, hts⟩
  have kc_48 := hts (.constant RX7 48 (-1000000001)) (List.mem_of_getElem? (i := 3) rfl)
  have kc_107 := hts (.constantLong RX7 107 (9)) (List.mem_of_getElem? (i := 2) rfl)
  have kc_105 := hts (.constantLong RX7 105 (255)) (List.mem_of_getElem? (i := 1) rfl)
  have hg : entryFrame m args 5 = entryFrame m ([.ref (a_m 0), .int x1, .int x2, .int x3] : List Value).toArray 5 := by rw [hav]
  rw [hg, lg_entry_eq]
  have hl := lv_entry ([.ref (a_m 0), .int x1, .int x2, .int x3]) (n := 5) (Nat.le_of_ble_eq_true rfl)
  generalize (lg_sl ([.ref (a_m 0), .int x1, .int x2, .int x3]) ++ List.replicate (5 - (lg_sl ([.ref (a_m 0), .int x1, .int x2, .int x3])).length) Slot.unset).toArray = ls at hl ⊢
  have hl : lv_has ls 5 [(0, .ref (a_m 0)), (1, .int x1), (2, .int x2), (3, .int x3)] := hl
  clear hg
  unfold fX7_set at hd
  have b80 : ∀ (s_m : MS), fX7_set_b80 fu    s_m = some r → bk_U p l e (headSpec wsX7_set (gRm 2 46)).room s m args below meth c (qUi below args s (dC, dI) vwCl (gty cI cJ cQ) A (fun u : MS => (wM cI cJ a_m u)) r) (dC, dI) vwCl A 5 (wM cI cJ a_m s_m) 80 [(0, .ref (a_m 0))] [] := by
    intro s_m hd
    intro H locs ls hP hD hS hl
    unfold fX7_set_b80 at hd
    refine lv_aload_n hx hb dX7_set_80 rfl (lv_at hl 0 rfl) ?_
    refine lv_ldc hx hb hown kc_48 dX7_set_81 ?_
    refine rx_upi1 hd hD hS hA (fun v hv => va_runV (As := [.int (-1000000001 : Int32)]) (rest := []) hcf (c_X7_finds l dC dI cI cJ cQ fu a_m _  s_m (-1000000001 : Int32) v hv) (cwV 1 hts gX7_set_X7_finds rfl rfl rfl cd_X7_finds ⟨(Nat.le_of_ble_eq_true rfl), (Nat.le_of_ble_eq_true rfl)⟩) (cq_U_V1 (q0 := 0) (ci := 6) hK hP hD rfl rfl) rfl rfl hl.1 rfl (lv_room (Nat.le_of_ble_eq_true rfl)) dX7_set_83 ⟨Nat.le_refl _, Nat.le_refl _⟩) (fun u83 hd H locs hP hD hS => ?_)
    exact rx_retUi (u := u83.2) (w1 := (fun u : MS => (wM cI cJ a_m u))) hx hb hr hlocks hd hK hP hD hS dX7_set_86
  have b52 : ∀ (s_m : MS) (x1 : Int32) (x2 : Int32) (x3 : Int32) (y0 : Int32), fX7_set_b52 fu    s_m x1 x2 x3 y0 = some r → bk_U p l e (headSpec wsX7_set (gRm 2 46)).room s m args below meth c (qUi below args s (dC, dI) vwCl (gty cI cJ cQ) A (fun u : MS => (wM cI cJ a_m u)) r) (dC, dI) vwCl A 5 (wM cI cJ a_m s_m) 52 [(0, .ref (a_m 0)), (1, .int x1), (2, .int x2), (3, .int x3)] [.int y0] := by
    intro s_m x1 x2 x3 y0 hd
    intro H locs ls hP hD hS hl
    unfold fX7_set_b52 at hd
    refine lv_istore (lv' := [(4, .int y0), (0, .ref (a_m 0)), (1, .int x1), (2, .int x2), (3, .int x3)]) hx hb dX7_set_52 hl (Nat.le_of_ble_eq_true rfl) rfl (fun ls hl => ?_)
    refine lv_aload_n hx hb dX7_set_54 rfl (lv_at hl 1 rfl) ?_
    refine lv_iload_n hx hb dX7_set_55 rfl (lv_at hl 2 rfl) ?_
    refine rx_roi hd (fun v hv => W.runV (As := [.int x1]) (rest := []) hcf (c_X7_isPerson l dC dI cI cJ cQ fu a_m  s_m x1 v hv) (cwV 1 hts gX7_set_X7_isPerson rfl rfl rfl cd_X7_isPerson ⟨(Nat.le_of_ble_eq_true rfl), (Nat.le_of_ble_eq_true rfl)⟩) (cq_R_V1 (q0 := 0) (ci := 6) hK hP rfl rfl) rfl rfl hl.1 rfl (lv_room (Nat.le_of_ble_eq_true rfl)) dX7_set_56 ⟨Nat.le_refl _, Nat.le_refl _⟩) (fun u56 hd => ?_)
    refine rx_if_eq hx hb 80 dX7_set_59 rfl hd (fun hd => ?_) (fun hd => ?_)
    · exact b80   s_m hd _ _ _ hP hD hS (lv_sub hl [1] rfl)
    refine lv_iload hx hb dX7_set_62 (lv_at hl 0 rfl) ?_
    refine rx_if_eq hx hb 80 dX7_set_64 rfl hd (fun hd => ?_) (fun hd => ?_)
    · exact b80   s_m hd _ _ _ hP hD hS (lv_sub hl [1] rfl)
    refine lv_aload_n hx hb dX7_set_67 rfl (lv_at hl 1 rfl) ?_
    refine lv_iload_n hx hb dX7_set_68 rfl (lv_at hl 2 rfl) ?_
    refine lv_iload_n hx hb dX7_set_69 rfl (lv_at hl 3 rfl) ?_
    refine rx_roi hd (fun v hv => W.runS (As := [.int x1, .int x2]) (rest := [.ref (a_m 0)]) hcf (c_X7_spot l dC dI cI cJ cQ fu    x1 x2 v hv) (va_cwS 2 hts gX7_set_X7_spot rfl rfl rfl cd_X7_spot ⟨(Nat.le_of_ble_eq_true rfl), (Nat.le_of_ble_eq_true rfl)⟩) (cq_R_S hK hP [] rfl) rfl rfl hl.1 rfl (lv_room (Nat.le_of_ble_eq_true rfl)) dX7_set_70 ⟨Nat.le_refl _, Nat.le_refl _⟩) (fun u70 hd => ?_)
    refine lv_iload_n hx hb dX7_set_73 rfl (lv_at hl 4 rfl) ?_
    refine rx_upi1 hd hD hS hA (fun v hv => va_runV (As := [.int u70, .int x3]) (rest := []) hcf (c_X7_becomes l dC dI cI cJ cQ fu a_m _  s_m u70 x3 v hv) (cwV 2 hts gX7_set_X7_becomes rfl rfl rfl cd_X7_becomes ⟨(Nat.le_of_ble_eq_true rfl), (Nat.le_of_ble_eq_true rfl)⟩) (cq_U_V1 (q0 := 0) (ci := 6) hK hP hD rfl rfl) rfl rfl hl.1 rfl (lv_room (Nat.le_of_ble_eq_true rfl)) dX7_set_74 ⟨Nat.le_refl _, Nat.le_refl _⟩) (fun u74 hd H locs hP hD hS => ?_)
    refine lv_goto (tgt := 86) hx hb dX7_set_77 rfl ?_
    exact rx_retUi (u := u74.2) (w1 := (fun u : MS => (wM cI cJ a_m u))) hx hb hr hlocks hd hK hP hD hS dX7_set_86
  refine lv_iload_n hx hb dX7_set_0 rfl (lv_at hl 2 rfl) ?_
  refine lv_iconst (v := 1) hx hb dX7_set_1 ki_1 ?_
  refine rx_icmp_ne hx hb 17 dX7_set_2 rfl hd (fun hd => ?_) (fun hd => ?_)
  · refine lv_iload_n hx hb dX7_set_17 rfl (lv_at hl 2 rfl) ?_
    refine lv_iconst (v := 2) hx hb dX7_set_18 ki_2 ?_
    refine rx_icmp_ne hx hb 30 dX7_set_19 rfl hd (fun hd => ?_) (fun hd => ?_)
    · refine lv_iload_n hx hb dX7_set_30 rfl (lv_at hl 2 rfl) ?_
      refine lv_iconst (v := 3) hx hb dX7_set_31 ki_3 ?_
      refine rx_icmp_ne hx hb 51 dX7_set_32 rfl hd (fun hd => ?_) (fun hd => ?_)
      · refine lv_iconst (v := 0) hx hb dX7_set_51 ki_0 ?_
        exact b52   s_m x1 x2 x3 (0 : Int32) hd _ _ _ hP hD hS (lv_sub hl [0, 1, 2, 3] rfl)
      refine lv_iload_n hx hb dX7_set_35 rfl (lv_at hl 3 rfl) ?_
      refine lv_i2l hx hb dX7_set_36 rfl ?_
      refine lv_lconst (v := 0) hx hb dX7_set_37 rfl ?_
      refine lv_ldc2 hx hb hown kc_107 dX7_set_38 ?_
      refine rx_roi hd (fun v hv => W.runS (As := [.long (Int32.toInt64 x3), .long (0 : Int64), .long (9 : Int64)]) (rest := []) hcf (c_X7_in l dC dI cI cJ cQ fu    (Int32.toInt64 x3) (0 : Int64) (9 : Int64) v hv) (va_cwS 3 hts gX7_set_X7_in rfl rfl rfl cd_X7_in ⟨(Nat.le_of_ble_eq_true rfl), (Nat.le_of_ble_eq_true rfl)⟩) (cq_R_S hK hP [] rfl) rfl rfl hl.1 rfl (lv_room (Nat.le_of_ble_eq_true rfl)) dX7_set_41 ⟨Nat.le_refl _, Nat.le_refl _⟩) (fun u41 hd => ?_)
      refine rx_if_eq hx hb 51 dX7_set_44 rfl hd (fun hd => ?_) (fun hd => ?_)
      · refine lv_iconst (v := 0) hx hb dX7_set_51 ki_0 ?_
        exact b52   s_m x1 x2 x3 (0 : Int32) hd _ _ _ hP hD hS (lv_sub hl [0, 1, 2, 3] rfl)
      refine lv_iconst (v := 1) hx hb dX7_set_47 ki_1 ?_
      refine lv_goto (tgt := 52) hx hb dX7_set_48 rfl ?_
      exact b52   s_m x1 x2 x3 (1 : Int32) hd _ _ _ hP hD hS (lv_sub hl [0, 1, 2, 3] rfl)
    refine lv_aload_n hx hb dX7_set_22 rfl (lv_at hl 0 rfl) ?_
    refine lv_iload_n hx hb dX7_set_23 rfl (lv_at hl 3 rfl) ?_
    refine rx_roi hd (fun v hv => W.runV (As := [.int x3]) (rest := []) hcf (c_X7_isPerson l dC dI cI cJ cQ fu a_m  s_m x3 v hv) (cwV 1 hts gX7_set_X7_isPerson rfl rfl rfl cd_X7_isPerson ⟨(Nat.le_of_ble_eq_true rfl), (Nat.le_of_ble_eq_true rfl)⟩) (cq_R_V1 (q0 := 0) (ci := 6) hK hP rfl rfl) rfl rfl hl.1 rfl (lv_room (Nat.le_of_ble_eq_true rfl)) dX7_set_24 ⟨Nat.le_refl _, Nat.le_refl _⟩) (fun u24 hd => ?_)
    refine lv_goto (tgt := 52) hx hb dX7_set_27 rfl ?_
    exact b52   s_m x1 x2 x3 u24 hd _ _ _ hP hD hS (lv_sub hl [0, 1, 2, 3] rfl)
  refine lv_iload_n hx hb dX7_set_5 rfl (lv_at hl 3 rfl) ?_
  refine lv_i2l hx hb dX7_set_6 rfl ?_
  refine lv_lconst (v := 0) hx hb dX7_set_7 rfl ?_
  refine lv_ldc2 hx hb hown kc_105 dX7_set_8 ?_
  refine rx_roi hd (fun v hv => W.runS (As := [.long (Int32.toInt64 x3), .long (0 : Int64), .long (255 : Int64)]) (rest := []) hcf (c_X7_in l dC dI cI cJ cQ fu    (Int32.toInt64 x3) (0 : Int64) (255 : Int64) v hv) (va_cwS 3 hts gX7_set_X7_in rfl rfl rfl cd_X7_in ⟨(Nat.le_of_ble_eq_true rfl), (Nat.le_of_ble_eq_true rfl)⟩) (cq_R_S hK hP [] rfl) rfl rfl hl.1 rfl (lv_room (Nat.le_of_ble_eq_true rfl)) dX7_set_11 ⟨Nat.le_refl _, Nat.le_refl _⟩) (fun u11 hd => ?_)
  refine lv_goto (tgt := 52) hx hb dX7_set_14 rfl ?_
  exact b52   s_m x1 x2 x3 u11 hd _ _ _ hP hD hS (lv_sub hl [0, 1, 2, 3] rfl)
set_option maxHeartbeats 8000000 in
set_option maxRecDepth 100000 in
theorem c_X7_turn (l : Launch) (dC : Nat → ClassId) (dI : Nat → Nat → Nat) (cI cJ cQ : ClassId) (fu : Nat) (a_m : Nat → Nat) (sz : Nat) (s_m : MS) (x1 : Int32) (x2 : Int32) (r : Int32 × MS) (hd : fX7_turn fu  s_m x1 x2 = some r) : mUi l yX7_turn wsX7_turn (gRm 2 46) [.ref (a_m 0), .int x1, .int x2] (dC, dI) vwCl (gty cI cJ cQ) (wM cI cJ a_m s_m) sz (fun u : MS => (wM cI cJ a_m u)) r := by
  refine Met.ofW (cc := cX7_turn) (maxL := 3) (ret := (some .int)) (by decide) rfl ?_
  intro p e s m args below meth c s₁ B hml hv
  obtain ⟨hav, hsz, hP, hK, hD0⟩ := hv
  subst hsz
  have hD := hD0.self (sz := s.heap.size)
  generalize hAe : va_A (wM cI cJ a_m s_m) s.heap.size = A at hD ⊢
  have hA : ∀ q : Nat, s.heap.size ≤ q → A q := fun q h => by rw [← hAe]; exact Or.inr h
  have hS : va_S A s.heap s.heap [] := va_S.rf
  have hx := B.exec
  have hb := B.bytes
  have hr := B.returns
  have hts := atoms_spec (ws := wsX7_turn) B.pre
  have hown : s.vm.findClass RX7 = some m.cls := findClass_of_methodNamed B.named
  have hlocks := B.notSynchronized
  have hcf : CallFix p m c cX7_turn 3 s args wsX7_turn RX7 := ⟨hx, hb, hml, hown, hts⟩
  have kc_48 := hts (.constant RX7 48 (-1000000001)) (List.mem_of_getElem? (i := 1) rfl)
  have hg : entryFrame m args 3 = entryFrame m ([.ref (a_m 0), .int x1, .int x2] : List Value).toArray 3 := by rw [hav]
  rw [hg, lg_entry_eq]
  have hl := lv_entry ([.ref (a_m 0), .int x1, .int x2]) (n := 3) (Nat.le_of_ble_eq_true rfl)
  generalize (lg_sl ([.ref (a_m 0), .int x1, .int x2]) ++ List.replicate (3 - (lg_sl ([.ref (a_m 0), .int x1, .int x2])).length) Slot.unset).toArray = ls at hl ⊢
  have hl : lv_has ls 3 [(0, .ref (a_m 0)), (1, .int x1), (2, .int x2)] := hl
  clear hg
  unfold fX7_turn at hd
  have b28 : ∀ (s_m : MS), fX7_turn_b28 fu    s_m = some r → bk_U p l e (headSpec wsX7_turn (gRm 2 46)).room s m args below meth c (qUi below args s (dC, dI) vwCl (gty cI cJ cQ) A (fun u : MS => (wM cI cJ a_m u)) r) (dC, dI) vwCl A 3 (wM cI cJ a_m s_m) 28 [(0, .ref (a_m 0))] [] := by
    intro s_m hd
    intro H locs ls hP hD hS hl
    unfold fX7_turn_b28 at hd
    refine lv_aload_n hx hb dX7_turn_28 rfl (lv_at hl 0 rfl) ?_
    refine lv_ldc hx hb hown kc_48 dX7_turn_29 ?_
    refine rx_upi1 hd hD hS hA (fun v hv => va_runV (As := [.int (-1000000001 : Int32)]) (rest := []) hcf (c_X7_finds l dC dI cI cJ cQ fu a_m _  s_m (-1000000001 : Int32) v hv) (cwV 1 hts gX7_turn_X7_finds rfl rfl rfl cd_X7_finds ⟨(Nat.le_of_ble_eq_true rfl), (Nat.le_of_ble_eq_true rfl)⟩) (cq_U_V1 (q0 := 0) (ci := 6) hK hP hD rfl rfl) rfl rfl hl.1 rfl (lv_room (Nat.le_of_ble_eq_true rfl)) dX7_turn_31 ⟨Nat.le_refl _, Nat.le_refl _⟩) (fun u31 hd H locs hP hD hS => ?_)
    exact rx_retUi (u := u31.2) (w1 := (fun u : MS => (wM cI cJ a_m u))) hx hb hr hlocks hd hK hP hD hS dX7_turn_34
  refine lv_aload_n hx hb dX7_turn_0 rfl (lv_at hl 0 rfl) ?_
  refine lv_iload_n hx hb dX7_turn_1 rfl (lv_at hl 1 rfl) ?_
  refine rx_roi hd (fun v hv => W.runV (As := [.int x1]) (rest := []) hcf (c_X7_isPerson l dC dI cI cJ cQ fu a_m  s_m x1 v hv) (cwV 1 hts gX7_turn_X7_isPerson rfl rfl rfl cd_X7_isPerson ⟨(Nat.le_of_ble_eq_true rfl), (Nat.le_of_ble_eq_true rfl)⟩) (cq_R_V1 (q0 := 0) (ci := 6) hK hP rfl rfl) rfl rfl hl.1 rfl (lv_room (Nat.le_of_ble_eq_true rfl)) dX7_turn_2 ⟨Nat.le_refl _, Nat.le_refl _⟩) (fun u2 hd => ?_)
  refine rx_if_eq hx hb 28 dX7_turn_5 rfl hd (fun hd => ?_) (fun hd => ?_)
  · exact b28   s_m hd _ _ _ hP hD hS (lv_sub hl [0] rfl)
  refine lv_iload_n hx hb dX7_turn_8 rfl (lv_at hl 2 rfl) ?_
  refine rx_roi hd (fun v hv => W.runS (As := [.int x2]) (rest := []) hcf (c_X7_isKind l dC dI cI cJ cQ fu    x2 v hv) (va_cwS 1 hts gX7_turn_X7_isKind rfl rfl rfl cd_X7_isKind ⟨(Nat.le_of_ble_eq_true rfl), (Nat.le_of_ble_eq_true rfl)⟩) (cq_R_S hK hP [] rfl) rfl rfl hl.1 rfl (lv_room (Nat.le_of_ble_eq_true rfl)) dX7_turn_9 ⟨Nat.le_refl _, Nat.le_refl _⟩) (fun u9 hd => ?_)
  refine rx_if_eq hx hb 28 dX7_turn_12 rfl hd (fun hd => ?_) (fun hd => ?_)
  · exact b28   s_m hd _ _ _ hP hD hS (lv_sub hl [0] rfl)
  refine lv_aload_n hx hb dX7_turn_15 rfl (lv_at hl 0 rfl) ?_
  refine lv_iload_n hx hb dX7_turn_16 rfl (lv_at hl 1 rfl) ?_
  refine lv_iconst (v := 0) hx hb dX7_turn_17 ki_0 ?_
  refine rx_roi hd (fun v hv => W.runS (As := [.int x1, .int (0 : Int32)]) (rest := [.ref (a_m 0)]) hcf (c_X7_spot l dC dI cI cJ cQ fu    x1 (0 : Int32) v hv) (va_cwS 2 hts gX7_turn_X7_spot rfl rfl rfl cd_X7_spot ⟨(Nat.le_of_ble_eq_true rfl), (Nat.le_of_ble_eq_true rfl)⟩) (cq_R_S hK hP [] rfl) rfl rfl hl.1 rfl (lv_room (Nat.le_of_ble_eq_true rfl)) dX7_turn_18 ⟨Nat.le_refl _, Nat.le_refl _⟩) (fun u18 hd => ?_)
  refine lv_iload_n hx hb dX7_turn_21 rfl (lv_at hl 2 rfl) ?_
  refine rx_upi1 hd hD hS hA (fun v hv => va_runV (As := [.int u18, .int x2]) (rest := []) hcf (c_X7_becomes l dC dI cI cJ cQ fu a_m _  s_m u18 x2 v hv) (cwV 2 hts gX7_turn_X7_becomes rfl rfl rfl cd_X7_becomes ⟨(Nat.le_of_ble_eq_true rfl), (Nat.le_of_ble_eq_true rfl)⟩) (cq_U_V1 (q0 := 0) (ci := 6) hK hP hD rfl rfl) rfl rfl hl.1 rfl (lv_room (Nat.le_of_ble_eq_true rfl)) dX7_turn_22 ⟨Nat.le_refl _, Nat.le_refl _⟩) (fun u22 hd H locs hP hD hS => ?_)
  refine lv_goto (tgt := 34) hx hb dX7_turn_25 rfl ?_
  exact rx_retUi (u := u22.2) (w1 := (fun u : MS => (wM cI cJ a_m u))) hx hb hr hlocks hd hK hP hD hS dX7_turn_34
set_option maxHeartbeats 8000000 in
set_option maxRecDepth 100000 in
theorem c_X7_isUnder (l : Launch) (dC : Nat → ClassId) (dI : Nat → Nat → Nat) (cI cJ cQ : ClassId) (fu : Nat)   (x0 : Int32) (x1 : Int32) (r : Int32) (hd : fX7_isUnder fu   x0 x1 = some r) : mRi l yX7_isUnder wsX7_isUnder (gRm 0 0) [.int x0, .int x1] (cq_R (dC, dI) vwCl (gty cI cJ cQ) ([] : va_W)) r := by
  refine Met.ofW (cc := cX7_isUnder) (maxL := 2) (ret := (some .boolean)) (by decide) rfl ?_
  intro p e s m args below meth c s₁ B hml hv
  obtain ⟨hav, hP, hK⟩ := hv
  have hx := B.exec
  have hb := B.bytes
  have hr := B.returns
  have hts := atoms_spec (ws := wsX7_isUnder) B.pre
  have hown : s.vm.findClass RX7 = some m.cls := findClass_of_methodNamed B.named
  have hlocks := B.notSynchronized
  have hcf : CallFix p m c cX7_isUnder 2 s args wsX7_isUnder RX7 := ⟨hx, hb, hml, hown, hts⟩
  have hg : entryFrame m args 2 = entryFrame m ([.int x0, .int x1] : List Value).toArray 2 := by rw [hav]
  rw [hg, lg_entry_eq]
  have hl := lv_entry ([.int x0, .int x1]) (n := 2) (Nat.le_of_ble_eq_true rfl)
  generalize (lg_sl ([.int x0, .int x1]) ++ List.replicate (2 - (lg_sl ([.int x0, .int x1])).length) Slot.unset).toArray = ls at hl ⊢
  have hl : lv_has ls 2 [(0, .int x0), (1, .int x1)] := hl
  clear hg
  unfold fX7_isUnder at hd
  refine lv_iload_n hx hb dX7_isUnder_0 rfl (lv_at hl 1 rfl) ?_
  refine rx_if_eq hx hb 21 dX7_isUnder_1 rfl hd (fun hd => ?_) (fun hd => ?_)
  · refine lv_iconst (v := 1) hx hb dX7_isUnder_21 ki_1 ?_
    refine lv_goto (tgt := 26) hx hb dX7_isUnder_22 rfl ?_
    exact rx_retRz hx hb hr hlocks hd dX7_isUnder_26
  refine lv_iload_n hx hb dX7_isUnder_4 rfl (lv_at hl 0 rfl) ?_
  refine lv_iload_n hx hb dX7_isUnder_5 rfl (lv_at hl 1 rfl) ?_
  refine rx_icmp_eq hx hb 21 dX7_isUnder_6 rfl hd (fun hd => ?_) (fun hd => ?_)
  · refine lv_iconst (v := 1) hx hb dX7_isUnder_21 ki_1 ?_
    refine lv_goto (tgt := 26) hx hb dX7_isUnder_22 rfl ?_
    exact rx_retRz hx hb hr hlocks hd dX7_isUnder_26
  refine lv_iload_n hx hb dX7_isUnder_9 rfl (lv_at hl 0 rfl) ?_
  refine lv_iconst (v := 3) hx hb dX7_isUnder_10 ki_3 ?_
  refine rx_icmp_le hx hb 25 dX7_isUnder_11 rfl hd (fun hd => ?_) (fun hd => ?_)
  · refine lv_iconst (v := 0) hx hb dX7_isUnder_25 ki_0 ?_
    exact rx_retRz hx hb hr hlocks hd dX7_isUnder_26
  refine lv_iload_n hx hb dX7_isUnder_14 rfl (lv_at hl 0 rfl) ?_
  refine lv_iconst (v := 3) hx hb dX7_isUnder_15 ki_3 ?_
  refine lv_isub hx hb dX7_isUnder_16 ?_
  refine lv_iload_n hx hb dX7_isUnder_17 rfl (lv_at hl 1 rfl) ?_
  refine rx_icmp_ne hx hb 25 dX7_isUnder_18 rfl hd (fun hd => ?_) (fun hd => ?_)
  · refine lv_iconst (v := 0) hx hb dX7_isUnder_25 ki_0 ?_
    exact rx_retRz hx hb hr hlocks hd dX7_isUnder_26
  refine lv_iconst (v := 1) hx hb dX7_isUnder_21 ki_1 ?_
  refine lv_goto (tgt := 26) hx hb dX7_isUnder_22 rfl ?_
  exact rx_retRz hx hb hr hlocks hd dX7_isUnder_26
set_option maxHeartbeats 8000000 in
set_option maxRecDepth 100000 in
theorem c_X7_as (l : Launch) (dC : Nat → ClassId) (dI : Nat → Nat → Nat) (cI cJ cQ : ClassId) (fu : Nat) (a_m : Nat → Nat) (sz : Nat) (s_m : MS) (x1 : Int32) (x2 : Int32) (r : Int32 × MS) (hd : fX7_as fu  s_m x1 x2 = some r) : mUi l yX7_as wsX7_as (gRm 2 46) [.ref (a_m 0), .int x1, .int x2] (dC, dI) vwCl (gty cI cJ cQ) (wM cI cJ a_m s_m) sz (fun u : MS => (wM cI cJ a_m u)) r := by
  refine Met.ofW (cc := cX7_as) (maxL := 3) (ret := (some .int)) (by decide) rfl ?_
  intro p e s m args below meth c s₁ B hml hv
  obtain ⟨hav, hsz, hP, hK, hD0⟩ := hv
  subst hsz
  have hD := hD0.self (sz := s.heap.size)
  generalize hAe : va_A (wM cI cJ a_m s_m) s.heap.size = A at hD ⊢
  have hA : ∀ q : Nat, s.heap.size ≤ q → A q := fun q h => by rw [← hAe]; exact Or.inr h
  have hS : va_S A s.heap s.heap [] := va_S.rf
  have hx := B.exec
  have hb := B.bytes
  have hr := B.returns
  have hts := atoms_spec (ws := wsX7_as) B.pre
  have hown : s.vm.findClass RX7 = some m.cls := findClass_of_methodNamed B.named
  have hlocks := B.notSynchronized
  have hcf : CallFix p m c cX7_as 3 s args wsX7_as RX7 := ⟨hx, hb, hml, hown, hts⟩
  have kc_48 := hts (.constant RX7 48 (-1000000001)) (List.mem_of_getElem? (i := 1) rfl)
  have kc_112 := hts (.constant RX7 112 (-1000000003)) (List.mem_of_getElem? (i := 2) rfl)
  have hg : entryFrame m args 3 = entryFrame m ([.ref (a_m 0), .int x1, .int x2] : List Value).toArray 3 := by rw [hav]
  rw [hg, lg_entry_eq]
  have hl := lv_entry ([.ref (a_m 0), .int x1, .int x2]) (n := 3) (Nat.le_of_ble_eq_true rfl)
  generalize (lg_sl ([.ref (a_m 0), .int x1, .int x2]) ++ List.replicate (3 - (lg_sl ([.ref (a_m 0), .int x1, .int x2])).length) Slot.unset).toArray = ls at hl ⊢
  have hl : lv_has ls 3 [(0, .ref (a_m 0)), (1, .int x1), (2, .int x2)] := hl
  clear hg
  unfold fX7_as at hd
  have b15 : ∀ (s_m : MS), fX7_as_b15 fu    s_m = some r → bk_U p l e (headSpec wsX7_as (gRm 2 46)).room s m args below meth c (qUi below args s (dC, dI) vwCl (gty cI cJ cQ) A (fun u : MS => (wM cI cJ a_m u)) r) (dC, dI) vwCl A 3 (wM cI cJ a_m s_m) 15 [(0, .ref (a_m 0))] [] := by
    intro s_m hd
    intro H locs ls hP hD hS hl
    unfold fX7_as_b15 at hd
    refine lv_aload_n hx hb dX7_as_15 rfl (lv_at hl 0 rfl) ?_
    refine lv_ldc hx hb hown kc_48 dX7_as_16 ?_
    refine rx_upi1 hd hD hS hA (fun v hv => va_runV (As := [.int (-1000000001 : Int32)]) (rest := []) hcf (c_X7_finds l dC dI cI cJ cQ fu a_m _  s_m (-1000000001 : Int32) v hv) (cwV 1 hts gX7_as_X7_finds rfl rfl rfl cd_X7_finds ⟨(Nat.le_of_ble_eq_true rfl), (Nat.le_of_ble_eq_true rfl)⟩) (cq_U_V1 (q0 := 0) (ci := 6) hK hP hD rfl rfl) rfl rfl hl.1 rfl (lv_room (Nat.le_of_ble_eq_true rfl)) dX7_as_18 ⟨Nat.le_refl _, Nat.le_refl _⟩) (fun u18 hd H locs hP hD hS => ?_)
    exact rx_retUi (u := u18.2) (w1 := (fun u : MS => (wM cI cJ a_m u))) hx hb hr hlocks hd hK hP hD hS dX7_as_21
  refine lv_aload_n hx hb dX7_as_0 rfl (lv_at hl 0 rfl) ?_
  refine lv_iload_n hx hb dX7_as_1 rfl (lv_at hl 1 rfl) ?_
  refine rx_roi hd (fun v hv => W.runV (As := [.int x1]) (rest := []) hcf (c_X7_isPerson l dC dI cI cJ cQ fu a_m  s_m x1 v hv) (cwV 1 hts gX7_as_X7_isPerson rfl rfl rfl cd_X7_isPerson ⟨(Nat.le_of_ble_eq_true rfl), (Nat.le_of_ble_eq_true rfl)⟩) (cq_R_V1 (q0 := 0) (ci := 6) hK hP rfl rfl) rfl rfl hl.1 rfl (lv_room (Nat.le_of_ble_eq_true rfl)) dX7_as_2 ⟨Nat.le_refl _, Nat.le_refl _⟩) (fun u2 hd => ?_)
  refine rx_if_eq hx hb 15 dX7_as_5 rfl hd (fun hd => ?_) (fun hd => ?_)
  · exact b15   s_m hd _ _ _ hP hD hS (lv_sub hl [0] rfl)
  refine lv_iload_n hx hb dX7_as_8 rfl (lv_at hl 2 rfl) ?_
  refine rx_roi hd (fun v hv => W.runS (As := [.int x2]) (rest := []) hcf (c_X7_isKind l dC dI cI cJ cQ fu    x2 v hv) (va_cwS 1 hts gX7_as_X7_isKind rfl rfl rfl cd_X7_isKind ⟨(Nat.le_of_ble_eq_true rfl), (Nat.le_of_ble_eq_true rfl)⟩) (cq_R_S hK hP [] rfl) rfl rfl hl.1 rfl (lv_room (Nat.le_of_ble_eq_true rfl)) dX7_as_9 ⟨Nat.le_refl _, Nat.le_refl _⟩) (fun u9 hd => ?_)
  refine rx_if_ne hx hb 22 dX7_as_12 rfl hd (fun hd => ?_) (fun hd => ?_)
  · refine lv_aload_n hx hb dX7_as_22 rfl (lv_at hl 0 rfl) ?_
    refine lv_iload_n hx hb dX7_as_23 rfl (lv_at hl 1 rfl) ?_
    refine lv_iconst (v := 0) hx hb dX7_as_24 ki_0 ?_
    refine rx_roi hd (fun v hv => W.runV (As := [.int x1, .int (0 : Int32)]) (rest := []) hcf (c_X7_its l dC dI cI cJ cQ fu a_m  s_m x1 (0 : Int32) v hv) (cwV 2 hts gX7_as_X7_its rfl rfl rfl cd_X7_its ⟨(Nat.le_of_ble_eq_true rfl), (Nat.le_of_ble_eq_true rfl)⟩) (cq_R_V1 (q0 := 0) (ci := 6) hK hP rfl rfl) rfl rfl hl.1 rfl (lv_room (Nat.le_of_ble_eq_true rfl)) dX7_as_25 ⟨Nat.le_refl _, Nat.le_refl _⟩) (fun u25 hd => ?_)
    refine lv_iload_n hx hb dX7_as_28 rfl (lv_at hl 2 rfl) ?_
    refine rx_roi hd (fun v hv => W.runS (As := [.int u25, .int x2]) (rest := []) hcf (c_X7_isUnder l dC dI cI cJ cQ fu    u25 x2 v hv) (va_cwS 2 hts gX7_as_X7_isUnder rfl rfl rfl cd_X7_isUnder ⟨(Nat.le_of_ble_eq_true rfl), (Nat.le_of_ble_eq_true rfl)⟩) (cq_R_S hK hP [] rfl) rfl rfl hl.1 rfl (lv_room (Nat.le_of_ble_eq_true rfl)) dX7_as_29 ⟨Nat.le_refl _, Nat.le_refl _⟩) (fun u29 hd => ?_)
    refine rx_if_eq hx hb 44 dX7_as_32 rfl hd (fun hd => ?_) (fun hd => ?_)
    · refine lv_aload_n hx hb dX7_as_44 rfl (lv_at hl 0 rfl) ?_
      refine lv_ldc hx hb hown kc_112 dX7_as_45 ?_
      refine rx_upi1 hd hD hS hA (fun v hv => va_runV (As := [.int (-1000000003 : Int32)]) (rest := []) hcf (c_X7_finds l dC dI cI cJ cQ fu a_m _  s_m (-1000000003 : Int32) v hv) (cwV 1 hts gX7_as_X7_finds rfl rfl rfl cd_X7_finds ⟨(Nat.le_of_ble_eq_true rfl), (Nat.le_of_ble_eq_true rfl)⟩) (cq_U_V1 (q0 := 0) (ci := 6) hK hP hD rfl rfl) rfl rfl hl.1 rfl (lv_room (Nat.le_of_ble_eq_true rfl)) dX7_as_47 ⟨Nat.le_refl _, Nat.le_refl _⟩) (fun u47 hd H locs hP hD hS => ?_)
      exact rx_retUi (u := u47.2) (w1 := (fun u : MS => (wM cI cJ a_m u))) hx hb hr hlocks hd hK hP hD hS dX7_as_50
    refine lv_aload_n hx hb dX7_as_35 rfl (lv_at hl 0 rfl) ?_
    refine lv_iload_n hx hb dX7_as_36 rfl (lv_at hl 1 rfl) ?_
    refine lv_iconst (v := 1) hx hb dX7_as_37 ki_1 ?_
    refine rx_roi hd (fun v hv => W.runV (As := [.int x1, .int (1 : Int32)]) (rest := []) hcf (c_X7_its l dC dI cI cJ cQ fu a_m  s_m x1 (1 : Int32) v hv) (cwV 2 hts gX7_as_X7_its rfl rfl rfl cd_X7_its ⟨(Nat.le_of_ble_eq_true rfl), (Nat.le_of_ble_eq_true rfl)⟩) (cq_R_V1 (q0 := 0) (ci := 6) hK hP rfl rfl) rfl rfl hl.1 rfl (lv_room (Nat.le_of_ble_eq_true rfl)) dX7_as_38 ⟨Nat.le_refl _, Nat.le_refl _⟩) (fun u38 hd => ?_)
    refine lv_goto (tgt := 50) hx hb dX7_as_41 rfl ?_
    exact rx_retUi (u := s_m) (w1 := (fun u : MS => (wM cI cJ a_m u))) hx hb hr hlocks hd hK hP hD hS dX7_as_50
  exact b15   s_m hd _ _ _ hP hD hS (lv_sub hl [0] rfl)
theorem fiX7_does_X7 : ∀ w ∈ wsX70, w ∈ wsX7_does := mem_r _ [31, 32, 33, 34, 35, 36, 37, 38, 39, 40, 41, 42, 43, 44, 45, 46, 47, 48] rfl
set_option maxHeartbeats 8000000 in
set_option maxRecDepth 100000 in
theorem c_X7_does (l : Launch) (dC : Nat → ClassId) (dI : Nat → Nat → Nat) (cI cJ cQ : ClassId) (fu : Nat) (a_m : Nat → Nat) (sz : Nat) (s_m : MS) (x1 : Int32) (x2 : Int32) (r : Int32 × MS) (hd : fX7_does fu  s_m x1 x2 = some r) : mUi l yX7_does wsX7_does (gRm 3 68) [.ref (a_m 0), .int x1, .int x2] (dC, dI) vwCl (gty cI cJ cQ) (wM cI cJ a_m s_m) sz (fun u : MS => (wM cI cJ a_m u)) r := by
  refine Met.ofW (cc := cX7_does) (maxL := 3) (ret := (some .int)) (by decide) rfl ?_
  intro p e s m args below meth c s₁ B hml hv
  obtain ⟨hav, hsz, hP, hK, hD0⟩ := hv
  subst hsz
  have hD := hD0.self (sz := s.heap.size)
  generalize hAe : va_A (wM cI cJ a_m s_m) s.heap.size = A at hD ⊢
  have hA : ∀ q : Nat, s.heap.size ≤ q → A q := fun q h => by rw [← hAe]; exact Or.inr h
  have hS : va_S A s.heap s.heap [] := va_S.rf
  have hx := B.exec
  have hb := B.bytes
  have hr := B.returns
  have hts := atoms_spec (ws := wsX7_does) B.pre
  have hown : s.vm.findClass RX7 = some m.cls := findClass_of_methodNamed B.named
  have hlocks := B.notSynchronized
  have hcf : CallFix p m c cX7_does 3 s args wsX7_does RX7 := ⟨hx, hb, hml, hown, hts⟩
  have fl_7 := hts (.fieldLink RX7 7 "BucketGiftModel" "s" "[I") (List.mem_of_getElem? (i := 3) rfl)
  have kc_48 := hts (.constant RX7 48 (-1000000001)) (List.mem_of_getElem? (i := 2) rfl)
  have kc_113 := hts (.constantLong RX7 113 (7)) (List.mem_of_getElem? (i := 1) rfl)
  have hg : entryFrame m args 3 = entryFrame m ([.ref (a_m 0), .int x1, .int x2] : List Value).toArray 3 := by rw [hav]
  rw [hg, lg_entry_eq]
  have hl := lv_entry ([.ref (a_m 0), .int x1, .int x2]) (n := 3) (Nat.le_of_ble_eq_true rfl)
  generalize (lg_sl ([.ref (a_m 0), .int x1, .int x2]) ++ List.replicate (3 - (lg_sl ([.ref (a_m 0), .int x1, .int x2])).length) Slot.unset).toArray = ls at hl ⊢
  have hl : lv_has ls 3 [(0, .ref (a_m 0)), (1, .int x1), (2, .int x2)] := hl
  clear hg
  unfold fX7_does at hd
  have b20 : ∀ (s_m : MS), fX7_does_b20 fu    s_m = some r → bk_U p l e (headSpec wsX7_does (gRm 3 68)).room s m args below meth c (qUi below args s (dC, dI) vwCl (gty cI cJ cQ) A (fun u : MS => (wM cI cJ a_m u)) r) (dC, dI) vwCl A 3 (wM cI cJ a_m s_m) 20 [(0, .ref (a_m 0))] [] := by
    intro s_m hd
    intro H locs ls hP hD hS hl
    unfold fX7_does_b20 at hd
    refine lv_aload_n hx hb dX7_does_20 rfl (lv_at hl 0 rfl) ?_
    refine lv_ldc hx hb hown kc_48 dX7_does_21 ?_
    refine rx_upi1 hd hD hS hA (fun v hv => va_runV (As := [.int (-1000000001 : Int32)]) (rest := []) hcf (c_X7_finds l dC dI cI cJ cQ fu a_m _  s_m (-1000000001 : Int32) v hv) (cwV 1 hts gX7_does_X7_finds rfl rfl rfl cd_X7_finds ⟨(Nat.le_of_ble_eq_true rfl), (Nat.le_of_ble_eq_true rfl)⟩) (cq_U_V1 (q0 := 0) (ci := 6) hK hP hD rfl rfl) rfl rfl hl.1 rfl (lv_room (Nat.le_of_ble_eq_true rfl)) dX7_does_23 ⟨Nat.le_refl _, Nat.le_refl _⟩) (fun u23 hd H locs hP hD hS => ?_)
    exact rx_retUi (u := u23.2) (w1 := (fun u : MS => (wM cI cJ a_m u))) hx hb hr hlocks hd hK hP hD hS dX7_does_26
  refine lv_aload_n hx hb dX7_does_0 rfl (lv_at hl 0 rfl) ?_
  refine lv_iload_n hx hb dX7_does_1 rfl (lv_at hl 1 rfl) ?_
  refine rx_roi hd (fun v hv => W.runV (As := [.int x1]) (rest := []) hcf (c_X7_isPerson l dC dI cI cJ cQ fu a_m  s_m x1 v hv) (cwV 1 hts gX7_does_X7_isPerson rfl rfl rfl cd_X7_isPerson ⟨(Nat.le_of_ble_eq_true rfl), (Nat.le_of_ble_eq_true rfl)⟩) (cq_R_V1 (q0 := 0) (ci := 6) hK hP rfl rfl) rfl rfl hl.1 rfl (lv_room (Nat.le_of_ble_eq_true rfl)) dX7_does_2 ⟨Nat.le_refl _, Nat.le_refl _⟩) (fun u2 hd => ?_)
  refine rx_if_eq hx hb 20 dX7_does_5 rfl hd (fun hd => ?_) (fun hd => ?_)
  · exact b20   s_m hd _ _ _ hP hD hS (lv_sub hl [0] rfl)
  refine lv_iload_n hx hb dX7_does_8 rfl (lv_at hl 2 rfl) ?_
  refine lv_i2l hx hb dX7_does_9 rfl ?_
  refine lv_lconst (v := 0) hx hb dX7_does_10 rfl ?_
  refine lv_ldc2 hx hb hown kc_113 dX7_does_11 ?_
  refine rx_roi hd (fun v hv => W.runS (As := [.long (Int32.toInt64 x2), .long (0 : Int64), .long (7 : Int64)]) (rest := []) hcf (c_X7_in l dC dI cI cJ cQ fu    (Int32.toInt64 x2) (0 : Int64) (7 : Int64) v hv) (va_cwS 3 hts gX7_does_X7_in rfl rfl rfl cd_X7_in ⟨(Nat.le_of_ble_eq_true rfl), (Nat.le_of_ble_eq_true rfl)⟩) (cq_R_S hK hP [] rfl) rfl rfl hl.1 rfl (lv_room (Nat.le_of_ble_eq_true rfl)) dX7_does_14 ⟨Nat.le_refl _, Nat.le_refl _⟩) (fun u14 hd => ?_)
  refine rx_if_ne hx hb 27 dX7_does_17 rfl hd (fun hd => ?_) (fun hd => ?_)
  · refine lv_aload_n hx hb dX7_does_27 rfl (lv_at hl 0 rfl) ?_
    refine rx_get hx hb hts fiX7_does_X7 hown hK hP 0 rfl rfl 0 (Nat.le_of_ble_eq_true rfl) fl_7 rfl rfl dX7_does_28 ?_
    refine lv_iload_n hx hb dX7_does_31 rfl (lv_at hl 1 rfl) ?_
    refine lv_iconst (v := 1) hx hb dX7_does_32 ki_1 ?_
    refine rx_roi hd (fun v hv => W.runS (As := [.int x1, .int (1 : Int32)]) (rest := [.ref (a_m 1)]) hcf (c_X7_spot l dC dI cI cJ cQ fu    x1 (1 : Int32) v hv) (va_cwS 2 hts gX7_does_X7_spot rfl rfl rfl cd_X7_spot ⟨(Nat.le_of_ble_eq_true rfl), (Nat.le_of_ble_eq_true rfl)⟩) (cq_R_S hK hP [] rfl) rfl rfl hl.1 rfl (lv_room (Nat.le_of_ble_eq_true rfl)) dX7_does_33 ⟨Nat.le_refl _, Nat.le_refl _⟩) (fun u33 hd => ?_)
    refine lv_dup2_11 hx hb dX7_does_36 rfl rfl ?_
    refine rx_iald hx hb hK hP 1 0 rfl rfl hd dX7_does_37 (fun v37 hd => ?_)
    refine lv_iconst (v := 1) hx hb dX7_does_38 ki_1 ?_
    refine lv_iload_n hx hb dX7_does_39 rfl (lv_at hl 2 rfl) ?_
    refine lv_ishl hx hb dX7_does_40 ?_
    refine lv_ior hx hb dX7_does_41 ?_
    refine rx_iast (wM cI cJ a_m (muS s_m (Int32.toNatClampNeg u33) (v37 ||| ((1 : Int32) <<< (x2 &&& (31 : Int32)))))) hx hb hK hP hD hS 1 0 rfl rfl hd (wM_uS ..) dX7_does_42 (fun hd H locs hP hD hS => ?_)
    refine lv_aload_n hx hb dX7_does_43 rfl (lv_at hl 0 rfl) ?_
    refine lv_iload_n hx hb dX7_does_44 rfl (lv_at hl 1 rfl) ?_
    refine rx_roi hd (fun v hv => W.runV (As := [.int x1]) (rest := []) hcf (c_X7_deserves l dC dI cI cJ cQ fu a_m  (muS s_m (Int32.toNatClampNeg u33) (v37 ||| ((1 : Int32) <<< (x2 &&& (31 : Int32))))) x1 v hv) (cwV 1 hts gX7_does_X7_deserves rfl rfl rfl cd_X7_deserves ⟨(Nat.le_of_ble_eq_true rfl), (Nat.le_of_ble_eq_true rfl)⟩) (cq_R_V1 (q0 := 0) (ci := 6) hK hP rfl rfl) rfl rfl hl.1 rfl (lv_room (Nat.le_of_ble_eq_true rfl)) dX7_does_45 ⟨Nat.le_refl _, Nat.le_refl _⟩) (fun u45 hd => ?_)
    exact rx_retUi (u := (muS s_m (Int32.toNatClampNeg u33) (v37 ||| ((1 : Int32) <<< (x2 &&& (31 : Int32)))))) (w1 := (fun u : MS => (wM cI cJ a_m u))) hx hb hr hlocks hd hK hP hD hS dX7_does_48
  exact b20   s_m hd _ _ _ hP hD hS (lv_sub hl [0] rfl)
theorem fiX7_pulls_X7 : ∀ w ∈ wsX70, w ∈ wsX7_pulls := mem_r _ [24, 25, 26, 27, 28, 29, 30, 31, 32, 33, 34, 35, 36, 37, 38, 39, 40, 41] rfl
set_option maxHeartbeats 8000000 in
set_option maxRecDepth 100000 in
theorem c_X7_pulls (l : Launch) (dC : Nat → ClassId) (dI : Nat → Nat → Nat) (cI cJ cQ : ClassId) (fu : Nat) (a_m : Nat → Nat) (sz : Nat) (s_m : MS) (x1 : Int32) (x2 : Int32) (r : Int32 × MS) (hd : fX7_pulls fu  s_m x1 x2 = some r) : mUi l yX7_pulls wsX7_pulls (gRm 4 91) [.ref (a_m 0), .int x1, .int x2] (dC, dI) vwCl (gty cI cJ cQ) (wM cI cJ a_m s_m) sz (fun u : MS => (wM cI cJ a_m u)) r := by
  refine Met.ofW (cc := cX7_pulls) (maxL := 5) (ret := (some .int)) (by decide) rfl ?_
  intro p e s m args below meth c s₁ B hml hv
  obtain ⟨hav, hsz, hP, hK, hD0⟩ := hv
  subst hsz
  have hD := hD0.self (sz := s.heap.size)
  generalize hAe : va_A (wM cI cJ a_m s_m) s.heap.size = A at hD ⊢
  have hA : ∀ q : Nat, s.heap.size ≤ q → A q := fun q h => by rw [← hAe]; exact Or.inr h
  have hS : va_S A s.heap s.heap [] := va_S.rf
  have hx := B.exec
  have hb := B.bytes
  have hr := B.returns
  have hts := atoms_spec (ws := wsX7_pulls) B.pre
  have hown : s.vm.findClass RX7 = some m.cls := findClass_of_methodNamed B.named
  have hlocks := B.notSynchronized
  have hcf : CallFix p m c cX7_pulls 5 s args wsX7_pulls RX7 := ⟨hx, hb, hml, hown, hts⟩
  have fl_7 := hts (.fieldLink RX7 7 "BucketGiftModel" "s" "[I") (List.mem_of_getElem? (i := 1) rfl)
  have hg : entryFrame m args 5 = entryFrame m ([.ref (a_m 0), .int x1, .int x2] : List Value).toArray 5 := by rw [hav]
  rw [hg, lg_entry_eq]
  have hl := lv_entry ([.ref (a_m 0), .int x1, .int x2]) (n := 5) (Nat.le_of_ble_eq_true rfl)
  generalize (lg_sl ([.ref (a_m 0), .int x1, .int x2]) ++ List.replicate (5 - (lg_sl ([.ref (a_m 0), .int x1, .int x2])).length) Slot.unset).toArray = ls at hl ⊢
  have hl : lv_has ls 5 [(0, .ref (a_m 0)), (1, .int x1), (2, .int x2)] := hl
  clear hg
  unfold fX7_pulls at hd
  have b83 : ∀ (s_m : MS) (x3 : Int32) (y0 : Int32) (y1 : Int32) (y2 : Int32), fX7_pulls_b83 fu    s_m x3 y0 y1 y2 = some r → bk_U p l e (headSpec wsX7_pulls (gRm 4 91)).room s m args below meth c (qUi below args s (dC, dI) vwCl (gty cI cJ cQ) A (fun u : MS => (wM cI cJ a_m u)) r) (dC, dI) vwCl A 5 (wM cI cJ a_m s_m) 83 [(3, .int x3)] [.int y0, .int y1, .int y2, .ref (a_m 1)] := by
    intro s_m x3 y0 y1 y2 hd
    intro H locs ls hP hD hS hl
    unfold fX7_pulls_b83 at hd
    refine lv_iadd hx hb dX7_pulls_83 ?_
    refine rx_iast (wM cI cJ a_m (muS s_m (Int32.toNatClampNeg y2) (y1 + y0))) hx hb hK hP hD hS 1 0 rfl rfl hd (wM_uS ..) dX7_pulls_84 (fun hd H locs hP hD hS => ?_)
    refine lv_iload_n hx hb dX7_pulls_85 rfl (lv_at hl 0 rfl) ?_
    exact rx_retUi (u := (muS s_m (Int32.toNatClampNeg y2) (y1 + y0))) (w1 := (fun u : MS => (wM cI cJ a_m u))) hx hb hr hlocks hd hK hP hD hS dX7_pulls_86
  have b45 : ∀ (s_m : MS) (x1 : Int32) (x3 : Int32) (y0 : Int32) (y1 : Int32), fX7_pulls_b45 fu    s_m x1 x3 y0 y1 = some r → bk_U p l e (headSpec wsX7_pulls (gRm 4 91)).room s m args below meth c (qUi below args s (dC, dI) vwCl (gty cI cJ cQ) A (fun u : MS => (wM cI cJ a_m u)) r) (dC, dI) vwCl A 5 (wM cI cJ a_m s_m) 45 [(0, .ref (a_m 0)), (1, .int x1), (3, .int x3)] [.int y0, .int y1, .ref (a_m 1)] := by
    intro s_m x1 x3 y0 y1 hd
    intro H locs ls hP hD hS hl
    unfold fX7_pulls_b45 at hd
    refine rx_iast (wM cI cJ a_m (muS s_m (Int32.toNatClampNeg y1) y0)) hx hb hK hP hD hS 1 0 rfl rfl hd (wM_uS ..) dX7_pulls_45 (fun hd H locs hP hD hS => ?_)
    refine lv_aload_n hx hb dX7_pulls_46 rfl (lv_at hl 0 rfl) ?_
    refine rx_get hx hb hts fiX7_pulls_X7 hown hK hP 0 rfl rfl 0 (Nat.le_of_ble_eq_true rfl) fl_7 rfl rfl dX7_pulls_47 ?_
    refine lv_iconst (v := 2) hx hb dX7_pulls_50 ki_2 ?_
    refine lv_dup2_11 hx hb dX7_pulls_51 rfl rfl ?_
    refine rx_iald hx hb hK hP 1 0 rfl rfl hd dX7_pulls_52 (fun v52 hd => ?_)
    refine lv_iload_n hx hb dX7_pulls_53 rfl (lv_at hl 2 rfl) ?_
    refine lv_isub hx hb dX7_pulls_54 ?_
    refine rx_iast (wM cI cJ a_m (muS (muS s_m (Int32.toNatClampNeg y1) y0) (Int32.toNatClampNeg (2 : Int32)) (v52 - x3))) hx hb hK hP hD hS 1 0 rfl rfl hd (wM_uS ..) dX7_pulls_55 (fun hd H locs hP hD hS => ?_)
    refine lv_aload_n hx hb dX7_pulls_56 rfl (lv_at hl 0 rfl) ?_
    refine rx_get hx hb hts fiX7_pulls_X7 hown hK hP 0 rfl rfl 0 (Nat.le_of_ble_eq_true rfl) fl_7 rfl rfl dX7_pulls_57 ?_
    refine lv_iload_n hx hb dX7_pulls_60 rfl (lv_at hl 1 rfl) ?_
    refine lv_iconst (v := 3) hx hb dX7_pulls_61 ki_3 ?_
    refine rx_roi hd (fun v hv => W.runS (As := [.int x1, .int (3 : Int32)]) (rest := [.ref (a_m 1)]) hcf (c_X7_spot l dC dI cI cJ cQ fu    x1 (3 : Int32) v hv) (va_cwS 2 hts gX7_pulls_X7_spot rfl rfl rfl cd_X7_spot ⟨(Nat.le_of_ble_eq_true rfl), (Nat.le_of_ble_eq_true rfl)⟩) (cq_R_S hK hP [] rfl) rfl rfl hl.1 rfl (lv_room (Nat.le_of_ble_eq_true rfl)) dX7_pulls_62 ⟨Nat.le_refl _, Nat.le_refl _⟩) (fun u62 hd => ?_)
    refine lv_dup2_11 hx hb dX7_pulls_65 rfl rfl ?_
    refine rx_iald hx hb hK hP 1 0 rfl rfl hd dX7_pulls_66 (fun v66 hd => ?_)
    refine lv_aload_n hx hb dX7_pulls_67 rfl (lv_at hl 0 rfl) ?_
    refine lv_iload_n hx hb dX7_pulls_68 rfl (lv_at hl 1 rfl) ?_
    refine lv_iconst (v := 3) hx hb dX7_pulls_69 ki_3 ?_
    refine rx_roi hd (fun v hv => W.runV (As := [.int x1, .int (3 : Int32)]) (rest := [.int v66, .int u62, .ref (a_m 1)]) hcf (c_X7_its l dC dI cI cJ cQ fu a_m  (muS (muS s_m (Int32.toNatClampNeg y1) y0) (Int32.toNatClampNeg (2 : Int32)) (v52 - x3)) x1 (3 : Int32) v hv) (cwV 2 hts gX7_pulls_X7_its rfl rfl rfl cd_X7_its ⟨(Nat.le_of_ble_eq_true rfl), (Nat.le_of_ble_eq_true rfl)⟩) (cq_R_V1 (q0 := 0) (ci := 6) hK hP rfl rfl) rfl rfl hl.1 rfl (lv_room (Nat.le_of_ble_eq_true rfl)) dX7_pulls_70 ⟨Nat.le_refl _, Nat.le_refl _⟩) (fun u70 hd => ?_)
    refine lv_bipush (v := 9) hx hb dX7_pulls_73 kb_9 ?_
    refine rx_icmp_ge hx hb 82 dX7_pulls_75 rfl hd (fun hd => ?_) (fun hd => ?_)
    · refine lv_iconst (v := 0) hx hb dX7_pulls_82 ki_0 ?_
      exact b83   (muS (muS s_m (Int32.toNatClampNeg y1) y0) (Int32.toNatClampNeg (2 : Int32)) (v52 - x3)) x3 (0 : Int32) v66 u62 hd _ _ _ hP hD hS (lv_sub hl [2] rfl)
    refine lv_iconst (v := 1) hx hb dX7_pulls_78 ki_1 ?_
    refine lv_goto (tgt := 83) hx hb dX7_pulls_79 rfl ?_
    exact b83   (muS (muS s_m (Int32.toNatClampNeg y1) y0) (Int32.toNatClampNeg (2 : Int32)) (v52 - x3)) x3 (1 : Int32) v66 u62 hd _ _ _ hP hD hS (lv_sub hl [2] rfl)
  refine lv_aload_n hx hb dX7_pulls_0 rfl (lv_at hl 0 rfl) ?_
  refine lv_iload_n hx hb dX7_pulls_1 rfl (lv_at hl 1 rfl) ?_
  refine rx_roi hd (fun v hv => W.runV (As := [.int x1]) (rest := []) hcf (c_X7_gives l dC dI cI cJ cQ fu a_m  s_m x1 v hv) (cwV 1 hts gX7_pulls_X7_gives rfl rfl rfl cd_X7_gives ⟨(Nat.le_of_ble_eq_true rfl), (Nat.le_of_ble_eq_true rfl)⟩) (cq_R_V1 (q0 := 0) (ci := 6) hK hP rfl rfl) rfl rfl hl.1 rfl (lv_room (Nat.le_of_ble_eq_true rfl)) dX7_pulls_2 ⟨Nat.le_refl _, Nat.le_refl _⟩) (fun u2 hd => ?_)
  refine lv_istore_n (lv' := [(3, .int u2), (0, .ref (a_m 0)), (1, .int x1), (2, .int x2)]) hx hb dX7_pulls_5 rfl hl (Nat.le_of_ble_eq_true rfl) rfl (fun ls hl => ?_)
  refine lv_aload_n hx hb dX7_pulls_6 rfl (lv_at hl 1 rfl) ?_
  refine rx_get hx hb hts fiX7_pulls_X7 hown hK hP 0 rfl rfl 0 (Nat.le_of_ble_eq_true rfl) fl_7 rfl rfl dX7_pulls_7 ?_
  refine lv_iload_n hx hb dX7_pulls_10 rfl (lv_at hl 3 rfl) ?_
  refine lv_iconst (v := 1) hx hb dX7_pulls_11 ki_1 ?_
  refine rx_roi hd (fun v hv => W.runS (As := [.int x2, .int (1 : Int32)]) (rest := [.ref (a_m 1)]) hcf (c_X7_field l dC dI cI cJ cQ fu    x2 (1 : Int32) v hv) (va_cwS 2 hts gX7_pulls_X7_field rfl rfl rfl cd_X7_field ⟨(Nat.le_of_ble_eq_true rfl), (Nat.le_of_ble_eq_true rfl)⟩) (cq_R_S hK hP [] rfl) rfl rfl hl.1 rfl (lv_room (Nat.le_of_ble_eq_true rfl)) dX7_pulls_12 ⟨Nat.le_refl _, Nat.le_refl _⟩) (fun u12 hd => ?_)
  refine rx_iald hx hb hK hP 1 0 rfl rfl hd dX7_pulls_15 (fun v15 hd => ?_)
  refine lv_iload_n hx hb dX7_pulls_16 rfl (lv_at hl 0 rfl) ?_
  refine lv_iadd hx hb dX7_pulls_17 ?_
  refine rx_topi hd (fun x4_18 hd => ?_)
  refine lv_istore (lv' := [(4, .int x4_18), (3, .int u2), (0, .ref (a_m 0)), (1, .int x1), (2, .int x2)]) hx hb dX7_pulls_18 hl (Nat.le_of_ble_eq_true rfl) rfl (fun ls hl => ?_)
  refine lv_aload_n hx hb dX7_pulls_20 rfl (lv_at hl 2 rfl) ?_
  refine rx_get hx hb hts fiX7_pulls_X7 hown hK hP 0 rfl rfl 0 (Nat.le_of_ble_eq_true rfl) fl_7 rfl rfl dX7_pulls_21 ?_
  refine lv_iload_n hx hb dX7_pulls_24 rfl (lv_at hl 4 rfl) ?_
  refine lv_iconst (v := 1) hx hb dX7_pulls_25 ki_1 ?_
  refine rx_roi hd (fun v hv => W.runS (As := [.int x2, .int (1 : Int32)]) (rest := [.ref (a_m 1)]) hcf (c_X7_field l dC dI cI cJ cQ fu    x2 (1 : Int32) v hv) (va_cwS 2 hts gX7_pulls_X7_field rfl rfl rfl cd_X7_field ⟨(Nat.le_of_ble_eq_true rfl), (Nat.le_of_ble_eq_true rfl)⟩) (cq_R_S hK hP [] rfl) rfl rfl hl.1 rfl (lv_room (Nat.le_of_ble_eq_true rfl)) dX7_pulls_26 ⟨Nat.le_refl _, Nat.le_refl _⟩) (fun u26 hd => ?_)
  refine lv_iload hx hb dX7_pulls_29 (lv_at hl 0 rfl) ?_
  refine lv_sipush (v := 9999) hx hb dX7_pulls_31 ks_9999 ?_
  refine rx_icmp_le hx hb 43 dX7_pulls_34 rfl hd (fun hd => ?_) (fun hd => ?_)
  · refine lv_iload hx hb dX7_pulls_43 (lv_at hl 0 rfl) ?_
    exact b45   s_m x1 u2 x4_18 u26 hd _ _ _ hP hD hS (lv_sub hl [2, 3, 1] rfl)
  refine lv_sipush (v := 9999) hx hb dX7_pulls_37 ks_9999 ?_
  refine lv_goto (tgt := 45) hx hb dX7_pulls_40 rfl ?_
  exact b45   s_m x1 u2 (9999 : Int32) u26 hd _ _ _ hP hD hS (lv_sub hl [2, 3, 1] rfl)
set_option maxHeartbeats 8000000 in
set_option maxRecDepth 100000 in
theorem c_X7_pull (l : Launch) (dC : Nat → ClassId) (dI : Nat → Nat → Nat) (cI cJ cQ : ClassId) (fu : Nat) (a_m : Nat → Nat) (sz : Nat) (s_m : MS) (x1 : Int32) (x2 : Int32) (r : Int32 × MS) (hd : fX7_pull fu  s_m x1 x2 = some r) : mUi l yX7_pull wsX7_pull (gRm 5 115) [.ref (a_m 0), .int x1, .int x2] (dC, dI) vwCl (gty cI cJ cQ) (wM cI cJ a_m s_m) sz (fun u : MS => (wM cI cJ a_m u)) r := by
  refine Met.ofW (cc := cX7_pull) (maxL := 3) (ret := (some .int)) (by decide) rfl ?_
  intro p e s m args below meth c s₁ B hml hv
  obtain ⟨hav, hsz, hP, hK, hD0⟩ := hv
  subst hsz
  have hD := hD0.self (sz := s.heap.size)
  generalize hAe : va_A (wM cI cJ a_m s_m) s.heap.size = A at hD ⊢
  have hA : ∀ q : Nat, s.heap.size ≤ q → A q := fun q h => by rw [← hAe]; exact Or.inr h
  have hS : va_S A s.heap s.heap [] := va_S.rf
  have hx := B.exec
  have hb := B.bytes
  have hr := B.returns
  have hts := atoms_spec (ws := wsX7_pull) B.pre
  have hown : s.vm.findClass RX7 = some m.cls := findClass_of_methodNamed B.named
  have hlocks := B.notSynchronized
  have hcf : CallFix p m c cX7_pull 3 s args wsX7_pull RX7 := ⟨hx, hb, hml, hown, hts⟩
  have kc_48 := hts (.constant RX7 48 (-1000000001)) (List.mem_of_getElem? (i := 1) rfl)
  have hg : entryFrame m args 3 = entryFrame m ([.ref (a_m 0), .int x1, .int x2] : List Value).toArray 3 := by rw [hav]
  rw [hg, lg_entry_eq]
  have hl := lv_entry ([.ref (a_m 0), .int x1, .int x2]) (n := 3) (Nat.le_of_ble_eq_true rfl)
  generalize (lg_sl ([.ref (a_m 0), .int x1, .int x2]) ++ List.replicate (3 - (lg_sl ([.ref (a_m 0), .int x1, .int x2])).length) Slot.unset).toArray = ls at hl ⊢
  have hl : lv_has ls 3 [(0, .ref (a_m 0)), (1, .int x1), (2, .int x2)] := hl
  clear hg
  unfold fX7_pull at hd
  have b24 : ∀ (s_m : MS), fX7_pull_b24 fu    s_m = some r → bk_U p l e (headSpec wsX7_pull (gRm 5 115)).room s m args below meth c (qUi below args s (dC, dI) vwCl (gty cI cJ cQ) A (fun u : MS => (wM cI cJ a_m u)) r) (dC, dI) vwCl A 3 (wM cI cJ a_m s_m) 24 [(0, .ref (a_m 0))] [] := by
    intro s_m hd
    intro H locs ls hP hD hS hl
    unfold fX7_pull_b24 at hd
    refine lv_aload_n hx hb dX7_pull_24 rfl (lv_at hl 0 rfl) ?_
    refine lv_ldc hx hb hown kc_48 dX7_pull_25 ?_
    refine rx_upi1 hd hD hS hA (fun v hv => va_runV (As := [.int (-1000000001 : Int32)]) (rest := []) hcf (c_X7_finds l dC dI cI cJ cQ fu a_m _  s_m (-1000000001 : Int32) v hv) (cwV 1 hts gX7_pull_X7_finds rfl rfl rfl cd_X7_finds ⟨(Nat.le_of_ble_eq_true rfl), (Nat.le_of_ble_eq_true rfl)⟩) (cq_U_V1 (q0 := 0) (ci := 6) hK hP hD rfl rfl) rfl rfl hl.1 rfl (lv_room (Nat.le_of_ble_eq_true rfl)) dX7_pull_27 ⟨Nat.le_refl _, Nat.le_refl _⟩) (fun u27 hd H locs hP hD hS => ?_)
    exact rx_retUi (u := u27.2) (w1 := (fun u : MS => (wM cI cJ a_m u))) hx hb hr hlocks hd hK hP hD hS dX7_pull_30
  refine lv_aload_n hx hb dX7_pull_0 rfl (lv_at hl 0 rfl) ?_
  refine lv_iload_n hx hb dX7_pull_1 rfl (lv_at hl 1 rfl) ?_
  refine rx_roi hd (fun v hv => W.runV (As := [.int x1]) (rest := []) hcf (c_X7_isPerson l dC dI cI cJ cQ fu a_m  s_m x1 v hv) (cwV 1 hts gX7_pull_X7_isPerson rfl rfl rfl cd_X7_isPerson ⟨(Nat.le_of_ble_eq_true rfl), (Nat.le_of_ble_eq_true rfl)⟩) (cq_R_V1 (q0 := 0) (ci := 6) hK hP rfl rfl) rfl rfl hl.1 rfl (lv_room (Nat.le_of_ble_eq_true rfl)) dX7_pull_2 ⟨Nat.le_refl _, Nat.le_refl _⟩) (fun u2 hd => ?_)
  refine rx_if_eq hx hb 24 dX7_pull_5 rfl hd (fun hd => ?_) (fun hd => ?_)
  · exact b24   s_m hd _ _ _ hP hD hS (lv_sub hl [0] rfl)
  refine lv_iload_n hx hb dX7_pull_8 rfl (lv_at hl 2 rfl) ?_
  refine rx_roi hd (fun v hv => W.runS (As := [.int x2]) (rest := []) hcf (c_X7_isFarm l dC dI cI cJ cQ fu    x2 v hv) (va_cwS 1 hts gX7_pull_X7_isFarm rfl rfl rfl cd_X7_isFarm ⟨(Nat.le_of_ble_eq_true rfl), (Nat.le_of_ble_eq_true rfl)⟩) (cq_R_S hK hP [] rfl) rfl rfl hl.1 rfl (lv_room (Nat.le_of_ble_eq_true rfl)) dX7_pull_9 ⟨Nat.le_refl _, Nat.le_refl _⟩) (fun u9 hd => ?_)
  refine rx_if_eq hx hb 24 dX7_pull_12 rfl hd (fun hd => ?_) (fun hd => ?_)
  · exact b24   s_m hd _ _ _ hP hD hS (lv_sub hl [0] rfl)
  refine lv_aload_n hx hb dX7_pull_15 rfl (lv_at hl 0 rfl) ?_
  refine lv_iload_n hx hb dX7_pull_16 rfl (lv_at hl 1 rfl) ?_
  refine lv_iload_n hx hb dX7_pull_17 rfl (lv_at hl 2 rfl) ?_
  refine rx_upi1 hd hD hS hA (fun v hv => va_runV (As := [.int x1, .int x2]) (rest := []) hcf (c_X7_pulls l dC dI cI cJ cQ fu a_m _  s_m x1 x2 v hv) (cwV 2 hts gX7_pull_X7_pulls rfl rfl rfl cd_X7_pulls ⟨(Nat.le_of_ble_eq_true rfl), (Nat.le_of_ble_eq_true rfl)⟩) (cq_U_V1 (q0 := 0) (ci := 6) hK hP hD rfl rfl) rfl rfl hl.1 rfl (lv_room (Nat.le_of_ble_eq_true rfl)) dX7_pull_18 ⟨Nat.le_refl _, Nat.le_refl _⟩) (fun u18 hd H locs hP hD hS => ?_)
  refine lv_goto (tgt := 30) hx hb dX7_pull_21 rfl ?_
  exact rx_retUi (u := u18.2) (w1 := (fun u : MS => (wM cI cJ a_m u))) hx hb hr hlocks hd hK hP hD hS dX7_pull_30
theorem fiX7_uses_X7 : ∀ w ∈ wsX70, w ∈ wsX7_uses := mem_r _ [7, 8, 9, 10, 11, 12, 13, 14, 15, 16, 17, 18, 19, 20, 21, 22, 23, 24] rfl
set_option maxHeartbeats 8000000 in
set_option maxRecDepth 100000 in
theorem c_X7_uses (l : Launch) (dC : Nat → ClassId) (dI : Nat → Nat → Nat) (cI cJ cQ : ClassId) (fu : Nat) (a_m : Nat → Nat) (sz : Nat) (s_m : MS) (x1 : Int32) (r : MS) (hd : fX7_uses fu  s_m x1 = some r) : mUv l yX7_uses wsX7_uses (gRm 1 21) [.ref (a_m 0), .int x1] (dC, dI) vwCl (gty cI cJ cQ) (wM cI cJ a_m s_m) sz (fun u : MS => (wM cI cJ a_m u)) r := by
  refine Met.ofW (cc := cX7_uses) (maxL := 3) (ret := none) (by decide) rfl ?_
  intro p e s m args below meth c s₁ B hml hv
  obtain ⟨hav, hsz, hP, hK, hD0⟩ := hv
  subst hsz
  have hD := hD0.self (sz := s.heap.size)
  generalize hAe : va_A (wM cI cJ a_m s_m) s.heap.size = A at hD ⊢
  have hA : ∀ q : Nat, s.heap.size ≤ q → A q := fun q h => by rw [← hAe]; exact Or.inr h
  have hS : va_S A s.heap s.heap [] := va_S.rf
  have hx := B.exec
  have hb := B.bytes
  have hr := B.returns
  have hts := atoms_spec (ws := wsX7_uses) B.pre
  have hown : s.vm.findClass RX7 = some m.cls := findClass_of_methodNamed B.named
  have hlocks := B.notSynchronized
  have hcf : CallFix p m c cX7_uses 3 s args wsX7_uses RX7 := ⟨hx, hb, hml, hown, hts⟩
  have fl_7 := hts (.fieldLink RX7 7 "BucketGiftModel" "s" "[I") (List.mem_of_getElem? (i := 1) rfl)
  have fl_118 := hts (.fieldLink RX7 118 "BucketGiftModel" "dryNow" "I") (List.mem_of_getElem? (i := 2) rfl)
  have hg : entryFrame m args 3 = entryFrame m ([.ref (a_m 0), .int x1] : List Value).toArray 3 := by rw [hav]
  rw [hg, lg_entry_eq]
  have hl := lv_entry ([.ref (a_m 0), .int x1]) (n := 3) (Nat.le_of_ble_eq_true rfl)
  generalize (lg_sl ([.ref (a_m 0), .int x1]) ++ List.replicate (3 - (lg_sl ([.ref (a_m 0), .int x1])).length) Slot.unset).toArray = ls at hl ⊢
  have hl : lv_has ls 3 [(0, .ref (a_m 0)), (1, .int x1)] := hl
  clear hg
  unfold fX7_uses at hd
  have b104 : ∀ (s_m : MS) (x1 : Int32) (x2 : Int32) (y0 : Int32) (y1 : Int32) (y2 : Int32), fX7_uses_b104 fu    s_m x1 x2 y0 y1 y2 = some r → bk_U p l e (headSpec wsX7_uses (gRm 1 21)).room s m args below meth c (qUv below args s (dC, dI) vwCl (gty cI cJ cQ) A (fun u : MS => (wM cI cJ a_m u)) r) (dC, dI) vwCl A 3 (wM cI cJ a_m s_m) 104 [(0, .ref (a_m 0)), (1, .int x1), (2, .int x2)] [.int y0, .int y1, .int y2, .ref (a_m 1)] := by
    intro s_m x1 x2 y0 y1 y2 hd
    intro H locs ls hP hD hS hl
    unfold fX7_uses_b104 at hd
    refine lv_iadd hx hb dX7_uses_104 ?_
    refine rx_iast (wM cI cJ a_m (muS s_m (Int32.toNatClampNeg y2) (y1 + y0))) hx hb hK hP hD hS 1 0 rfl rfl hd (wM_uS ..) dX7_uses_105 (fun hd H locs hP hD hS => ?_)
    refine lv_aload_n hx hb dX7_uses_106 rfl (lv_at hl 0 rfl) ?_
    refine lv_dup hx hb dX7_uses_107 rfl ?_
    refine rx_get hx hb hts fiX7_uses_X7 hown hK hP 0 rfl rfl 6 (Nat.le_of_ble_eq_true rfl) fl_118 rfl rfl dX7_uses_108 ?_
    refine lv_iload_n hx hb dX7_uses_111 rfl (lv_at hl 2 rfl) ?_
    refine rx_if_eq hx hb 121 dX7_uses_112 rfl hd (fun hd => ?_) (fun hd => ?_)
    · refine lv_iconst (v := 0) hx hb dX7_uses_121 ki_0 ?_
      refine lv_ior hx hb dX7_uses_122 ?_
      refine rx_puti (wM cI cJ a_m (msDryNow (muS s_m (Int32.toNatClampNeg y2) (y1 + y0)) ((mgDryNow (muS s_m (Int32.toNatClampNeg y2) (y1 + y0))) ||| (0 : Int32)))) hx hb hts fiX7_uses_X7 tyX7 tyX7_ok nmX7 hown hK hP hD hS 0 rfl rfl 6 (Nat.le_of_ble_eq_true rfl) fl_118 rfl rfl rfl (Nat.le_of_ble_eq_true rfl) (wM_sDryNow ..) dX7_uses_123 (fun H locs hP hD hS => ?_)
      exact rx_retUv (u := (msDryNow (muS s_m (Int32.toNatClampNeg y2) (y1 + y0)) ((mgDryNow (muS s_m (Int32.toNatClampNeg y2) (y1 + y0))) ||| (0 : Int32)))) (w1 := (fun u : MS => (wM cI cJ a_m u))) hx hb hr hlocks hd hK hP hD hS dX7_uses_126
    refine lv_iconst (v := 1) hx hb dX7_uses_115 ki_1 ?_
    refine lv_iload_n hx hb dX7_uses_116 rfl (lv_at hl 1 rfl) ?_
    refine lv_ishl hx hb dX7_uses_117 ?_
    refine lv_goto (tgt := 122) hx hb dX7_uses_118 rfl ?_
    refine lv_ior hx hb dX7_uses_122 ?_
    refine rx_puti (wM cI cJ a_m (msDryNow (muS s_m (Int32.toNatClampNeg y2) (y1 + y0)) ((mgDryNow (muS s_m (Int32.toNatClampNeg y2) (y1 + y0))) ||| ((1 : Int32) <<< (x1 &&& (31 : Int32)))))) hx hb hts fiX7_uses_X7 tyX7 tyX7_ok nmX7 hown hK hP hD hS 0 rfl rfl 6 (Nat.le_of_ble_eq_true rfl) fl_118 rfl rfl rfl (Nat.le_of_ble_eq_true rfl) (wM_sDryNow ..) dX7_uses_123 (fun H locs hP hD hS => ?_)
    exact rx_retUv (u := (msDryNow (muS s_m (Int32.toNatClampNeg y2) (y1 + y0)) ((mgDryNow (muS s_m (Int32.toNatClampNeg y2) (y1 + y0))) ||| ((1 : Int32) <<< (x1 &&& (31 : Int32)))))) (w1 := (fun u : MS => (wM cI cJ a_m u))) hx hb hr hlocks hd hK hP hD hS dX7_uses_126
  have b67 : ∀ (s_m : MS) (x1 : Int32) (x2 : Int32) (y0 : Int32) (y1 : Int32), fX7_uses_b67 fu    s_m x1 x2 y0 y1 = some r → bk_U p l e (headSpec wsX7_uses (gRm 1 21)).room s m args below meth c (qUv below args s (dC, dI) vwCl (gty cI cJ cQ) A (fun u : MS => (wM cI cJ a_m u)) r) (dC, dI) vwCl A 3 (wM cI cJ a_m s_m) 67 [(0, .ref (a_m 0)), (1, .int x1), (2, .int x2)] [.int y0, .int y1, .ref (a_m 1)] := by
    intro s_m x1 x2 y0 y1 hd
    intro H locs ls hP hD hS hl
    unfold fX7_uses_b67 at hd
    refine rx_iast (wM cI cJ a_m (muS s_m (Int32.toNatClampNeg y1) y0)) hx hb hK hP hD hS 1 0 rfl rfl hd (wM_uS ..) dX7_uses_67 (fun hd H locs hP hD hS => ?_)
    refine lv_aload_n hx hb dX7_uses_68 rfl (lv_at hl 0 rfl) ?_
    refine rx_get hx hb hts fiX7_uses_X7 hown hK hP 0 rfl rfl 0 (Nat.le_of_ble_eq_true rfl) fl_7 rfl rfl dX7_uses_69 ?_
    refine lv_iload_n hx hb dX7_uses_72 rfl (lv_at hl 1 rfl) ?_
    refine lv_iconst (v := 2) hx hb dX7_uses_73 ki_2 ?_
    refine rx_roi hd (fun v hv => W.runS (As := [.int x1, .int (2 : Int32)]) (rest := [.ref (a_m 1)]) hcf (c_X7_field l dC dI cI cJ cQ fu    x1 (2 : Int32) v hv) (va_cwS 2 hts gX7_uses_X7_field rfl rfl rfl cd_X7_field ⟨(Nat.le_of_ble_eq_true rfl), (Nat.le_of_ble_eq_true rfl)⟩) (cq_R_S hK hP [] rfl) rfl rfl hl.1 rfl (lv_room (Nat.le_of_ble_eq_true rfl)) dX7_uses_74 ⟨Nat.le_refl _, Nat.le_refl _⟩) (fun u74 hd => ?_)
    refine lv_dup2_11 hx hb dX7_uses_77 rfl rfl ?_
    refine rx_iald hx hb hK hP 1 0 rfl rfl hd dX7_uses_78 (fun v78 hd => ?_)
    refine lv_iload_n hx hb dX7_uses_79 rfl (lv_at hl 2 rfl) ?_
    refine rx_if_eq hx hb 103 dX7_uses_80 rfl hd (fun hd => ?_) (fun hd => ?_)
    · refine lv_iconst (v := 0) hx hb dX7_uses_103 ki_0 ?_
      exact b104   (muS s_m (Int32.toNatClampNeg y1) y0) x1 x2 (0 : Int32) v78 u74 hd _ _ _ hP hD hS (lv_sub hl [0, 1, 2] rfl)
    refine lv_aload_n hx hb dX7_uses_83 rfl (lv_at hl 0 rfl) ?_
    refine rx_get hx hb hts fiX7_uses_X7 hown hK hP 0 rfl rfl 0 (Nat.le_of_ble_eq_true rfl) fl_7 rfl rfl dX7_uses_84 ?_
    refine lv_iload_n hx hb dX7_uses_87 rfl (lv_at hl 1 rfl) ?_
    refine lv_iconst (v := 2) hx hb dX7_uses_88 ki_2 ?_
    refine rx_roi hd (fun v hv => W.runS (As := [.int x1, .int (2 : Int32)]) (rest := [.ref (a_m 1), .int v78, .int u74, .ref (a_m 1)]) hcf (c_X7_field l dC dI cI cJ cQ fu    x1 (2 : Int32) v hv) (va_cwS 2 hts gX7_uses_X7_field rfl rfl rfl cd_X7_field ⟨(Nat.le_of_ble_eq_true rfl), (Nat.le_of_ble_eq_true rfl)⟩) (cq_R_S hK hP [] rfl) rfl rfl hl.1 rfl (lv_room (Nat.le_of_ble_eq_true rfl)) dX7_uses_89 ⟨Nat.le_refl _, Nat.le_refl _⟩) (fun u89 hd => ?_)
    refine rx_iald hx hb hK hP 1 0 rfl rfl hd dX7_uses_92 (fun v92 hd => ?_)
    refine lv_sipush (v := 9999) hx hb dX7_uses_93 ks_9999 ?_
    refine rx_icmp_ge hx hb 103 dX7_uses_96 rfl hd (fun hd => ?_) (fun hd => ?_)
    · refine lv_iconst (v := 0) hx hb dX7_uses_103 ki_0 ?_
      exact b104   (muS s_m (Int32.toNatClampNeg y1) y0) x1 x2 (0 : Int32) v78 u74 hd _ _ _ hP hD hS (lv_sub hl [0, 1, 2] rfl)
    refine lv_iconst (v := 1) hx hb dX7_uses_99 ki_1 ?_
    refine lv_goto (tgt := 104) hx hb dX7_uses_100 rfl ?_
    exact b104   (muS s_m (Int32.toNatClampNeg y1) y0) x1 x2 (1 : Int32) v78 u74 hd _ _ _ hP hD hS (lv_sub hl [0, 1, 2] rfl)
  have b28 : ∀ (s_m : MS) (x1 : Int32) (y0 : Int32), fX7_uses_b28 fu    s_m x1 y0 = some r → bk_U p l e (headSpec wsX7_uses (gRm 1 21)).room s m args below meth c (qUv below args s (dC, dI) vwCl (gty cI cJ cQ) A (fun u : MS => (wM cI cJ a_m u)) r) (dC, dI) vwCl A 3 (wM cI cJ a_m s_m) 28 [(0, .ref (a_m 0)), (1, .int x1)] [.int y0] := by
    intro s_m x1 y0 hd
    intro H locs ls hP hD hS hl
    unfold fX7_uses_b28 at hd
    refine lv_istore_n (lv' := [(2, .int y0), (0, .ref (a_m 0)), (1, .int x1)]) hx hb dX7_uses_28 rfl hl (Nat.le_of_ble_eq_true rfl) rfl (fun ls hl => ?_)
    refine lv_aload_n hx hb dX7_uses_29 rfl (lv_at hl 1 rfl) ?_
    refine rx_get hx hb hts fiX7_uses_X7 hown hK hP 0 rfl rfl 0 (Nat.le_of_ble_eq_true rfl) fl_7 rfl rfl dX7_uses_30 ?_
    refine lv_iload_n hx hb dX7_uses_33 rfl (lv_at hl 2 rfl) ?_
    refine lv_iconst (v := 1) hx hb dX7_uses_34 ki_1 ?_
    refine rx_roi hd (fun v hv => W.runS (As := [.int x1, .int (1 : Int32)]) (rest := [.ref (a_m 1)]) hcf (c_X7_field l dC dI cI cJ cQ fu    x1 (1 : Int32) v hv) (va_cwS 2 hts gX7_uses_X7_field rfl rfl rfl cd_X7_field ⟨(Nat.le_of_ble_eq_true rfl), (Nat.le_of_ble_eq_true rfl)⟩) (cq_R_S hK hP [] rfl) rfl rfl hl.1 rfl (lv_room (Nat.le_of_ble_eq_true rfl)) dX7_uses_35 ⟨Nat.le_refl _, Nat.le_refl _⟩) (fun u35 hd => ?_)
    refine lv_iload_n hx hb dX7_uses_38 rfl (lv_at hl 0 rfl) ?_
    refine rx_if_eq hx hb 46 dX7_uses_39 rfl hd (fun hd => ?_) (fun hd => ?_)
    · refine lv_aload_n hx hb dX7_uses_46 rfl (lv_at hl 1 rfl) ?_
      refine rx_get hx hb hts fiX7_uses_X7 hown hK hP 0 rfl rfl 0 (Nat.le_of_ble_eq_true rfl) fl_7 rfl rfl dX7_uses_47 ?_
      refine lv_iload_n hx hb dX7_uses_50 rfl (lv_at hl 2 rfl) ?_
      refine lv_iconst (v := 1) hx hb dX7_uses_51 ki_1 ?_
      refine rx_roi hd (fun v hv => W.runS (As := [.int x1, .int (1 : Int32)]) (rest := [.ref (a_m 1), .int u35, .ref (a_m 1)]) hcf (c_X7_field l dC dI cI cJ cQ fu    x1 (1 : Int32) v hv) (va_cwS 2 hts gX7_uses_X7_field rfl rfl rfl cd_X7_field ⟨(Nat.le_of_ble_eq_true rfl), (Nat.le_of_ble_eq_true rfl)⟩) (cq_R_S hK hP [] rfl) rfl rfl hl.1 rfl (lv_room (Nat.le_of_ble_eq_true rfl)) dX7_uses_52 ⟨Nat.le_refl _, Nat.le_refl _⟩) (fun u52 hd => ?_)
      refine rx_iald hx hb hK hP 1 0 rfl rfl hd dX7_uses_55 (fun v55 hd => ?_)
      refine lv_aload_n hx hb dX7_uses_56 rfl (lv_at hl 1 rfl) ?_
      refine rx_get hx hb hts fiX7_uses_X7 hown hK hP 0 rfl rfl 0 (Nat.le_of_ble_eq_true rfl) fl_7 rfl rfl dX7_uses_57 ?_
      refine lv_iload_n hx hb dX7_uses_60 rfl (lv_at hl 2 rfl) ?_
      refine lv_iconst (v := 0) hx hb dX7_uses_61 ki_0 ?_
      refine rx_roi hd (fun v hv => W.runS (As := [.int x1, .int (0 : Int32)]) (rest := [.ref (a_m 1), .int v55, .int u35, .ref (a_m 1)]) hcf (c_X7_field l dC dI cI cJ cQ fu    x1 (0 : Int32) v hv) (va_cwS 2 hts gX7_uses_X7_field rfl rfl rfl cd_X7_field ⟨(Nat.le_of_ble_eq_true rfl), (Nat.le_of_ble_eq_true rfl)⟩) (cq_R_S hK hP [] rfl) rfl rfl hl.1 rfl (lv_room (Nat.le_of_ble_eq_true rfl)) dX7_uses_62 ⟨Nat.le_refl _, Nat.le_refl _⟩) (fun u62 hd => ?_)
      refine rx_iald hx hb hK hP 1 0 rfl rfl hd dX7_uses_65 (fun v65 hd => ?_)
      refine lv_isub hx hb dX7_uses_66 ?_
      exact b67   s_m x1 y0 (v55 - v65) u35 hd _ _ _ hP hD hS (lv_sub hl [1, 2, 0] rfl)
    refine lv_iconst (v := 0) hx hb dX7_uses_42 ki_0 ?_
    refine lv_goto (tgt := 67) hx hb dX7_uses_43 rfl ?_
    exact b67   s_m x1 y0 (0 : Int32) u35 hd _ _ _ hP hD hS (lv_sub hl [1, 2, 0] rfl)
  refine lv_aload_n hx hb dX7_uses_0 rfl (lv_at hl 0 rfl) ?_
  refine rx_get hx hb hts fiX7_uses_X7 hown hK hP 0 rfl rfl 0 (Nat.le_of_ble_eq_true rfl) fl_7 rfl rfl dX7_uses_1 ?_
  refine lv_iload_n hx hb dX7_uses_4 rfl (lv_at hl 1 rfl) ?_
  refine lv_iconst (v := 1) hx hb dX7_uses_5 ki_1 ?_
  refine rx_roi hd (fun v hv => W.runS (As := [.int x1, .int (1 : Int32)]) (rest := [.ref (a_m 1)]) hcf (c_X7_field l dC dI cI cJ cQ fu    x1 (1 : Int32) v hv) (va_cwS 2 hts gX7_uses_X7_field rfl rfl rfl cd_X7_field ⟨(Nat.le_of_ble_eq_true rfl), (Nat.le_of_ble_eq_true rfl)⟩) (cq_R_S hK hP [] rfl) rfl rfl hl.1 rfl (lv_room (Nat.le_of_ble_eq_true rfl)) dX7_uses_6 ⟨Nat.le_refl _, Nat.le_refl _⟩) (fun u6 hd => ?_)
  refine rx_iald hx hb hK hP 1 0 rfl rfl hd dX7_uses_9 (fun v9 hd => ?_)
  refine lv_aload_n hx hb dX7_uses_10 rfl (lv_at hl 0 rfl) ?_
  refine rx_get hx hb hts fiX7_uses_X7 hown hK hP 0 rfl rfl 0 (Nat.le_of_ble_eq_true rfl) fl_7 rfl rfl dX7_uses_11 ?_
  refine lv_iload_n hx hb dX7_uses_14 rfl (lv_at hl 1 rfl) ?_
  refine lv_iconst (v := 0) hx hb dX7_uses_15 ki_0 ?_
  refine rx_roi hd (fun v hv => W.runS (As := [.int x1, .int (0 : Int32)]) (rest := [.ref (a_m 1), .int v9]) hcf (c_X7_field l dC dI cI cJ cQ fu    x1 (0 : Int32) v hv) (va_cwS 2 hts gX7_uses_X7_field rfl rfl rfl cd_X7_field ⟨(Nat.le_of_ble_eq_true rfl), (Nat.le_of_ble_eq_true rfl)⟩) (cq_R_S hK hP [] rfl) rfl rfl hl.1 rfl (lv_room (Nat.le_of_ble_eq_true rfl)) dX7_uses_16 ⟨Nat.le_refl _, Nat.le_refl _⟩) (fun u16 hd => ?_)
  refine rx_iald hx hb hK hP 1 0 rfl rfl hd dX7_uses_19 (fun v19 hd => ?_)
  refine rx_icmp_ge hx hb 27 dX7_uses_20 rfl hd (fun hd => ?_) (fun hd => ?_)
  · refine lv_iconst (v := 0) hx hb dX7_uses_27 ki_0 ?_
    exact b28   s_m x1 (0 : Int32) hd _ _ _ hP hD hS (lv_sub hl [0, 1] rfl)
  refine lv_iconst (v := 1) hx hb dX7_uses_23 ki_1 ?_
  refine lv_goto (tgt := 28) hx hb dX7_uses_24 rfl ?_
  exact b28   s_m x1 (1 : Int32) hd _ _ _ hP hD hS (lv_sub hl [0, 1] rfl)
theorem fiX7_day_X7 : ∀ w ∈ wsX70, w ∈ wsX7_day := mem_r _ [33, 34, 35, 36, 37, 38, 39, 40, 41, 42, 43, 44, 45, 46, 47, 48, 49, 50] rfl
set_option maxHeartbeats 8000000 in
set_option maxRecDepth 100000 in
theorem c_X7_day (l : Launch) (dC : Nat → ClassId) (dI : Nat → Nat → Nat) (cI cJ cQ : ClassId) (fu : Nat) (a_m : Nat → Nat) (sz : Nat) (s_m : MS)  (r : MS) (hd : fX7_day fu  s_m  = some r) : mUv l yX7_day wsX7_day (gRm 5 115) [.ref (a_m 0)] (dC, dI) vwCl (gty cI cJ cQ) (wM cI cJ a_m s_m) sz (fun u : MS => (wM cI cJ a_m u)) r := by
  refine Met.ofW (cc := cX7_day) (maxL := 3) (ret := none) (by decide) rfl ?_
  intro p e s m args below meth c s₁ B hml hv
  obtain ⟨hav, hsz, hP, hK, hD0⟩ := hv
  subst hsz
  have hD := hD0.self (sz := s.heap.size)
  generalize hAe : va_A (wM cI cJ a_m s_m) s.heap.size = A at hD ⊢
  have hA : ∀ q : Nat, s.heap.size ≤ q → A q := fun q h => by rw [← hAe]; exact Or.inr h
  have hS : va_S A s.heap s.heap [] := va_S.rf
  have hx := B.exec
  have hb := B.bytes
  have hr := B.returns
  have hts := atoms_spec (ws := wsX7_day) B.pre
  have hown : s.vm.findClass RX7 = some m.cls := findClass_of_methodNamed B.named
  have hlocks := B.notSynchronized
  have hcf : CallFix p m c cX7_day 3 s args wsX7_day RX7 := ⟨hx, hb, hml, hown, hts⟩
  have fl_118 := hts (.fieldLink RX7 118 "BucketGiftModel" "dryNow" "I") (List.mem_of_getElem? (i := 1) rfl)
  have fl_7 := hts (.fieldLink RX7 7 "BucketGiftModel" "s" "[I") (List.mem_of_getElem? (i := 2) rfl)
  have hg : entryFrame m args 3 = entryFrame m ([.ref (a_m 0)] : List Value).toArray 3 := by rw [hav]
  rw [hg, lg_entry_eq]
  have hl := lv_entry ([.ref (a_m 0)]) (n := 3) (Nat.le_of_ble_eq_true rfl)
  generalize (lg_sl ([.ref (a_m 0)]) ++ List.replicate (3 - (lg_sl ([.ref (a_m 0)])).length) Slot.unset).toArray = ls at hl ⊢
  have hl : lv_has ls 3 [(0, .ref (a_m 0))] := hl
  clear hg
  unfold fX7_day at hd
  have b148 : ∀ (s_m : MS) (y0 : Int32) (y1 : Int32), fX7_day_b148 fu    s_m y0 y1 = some r → bk_U p l e (headSpec wsX7_day (gRm 5 115)).room s m args below meth c (qUv below args s (dC, dI) vwCl (gty cI cJ cQ) A (fun u : MS => (wM cI cJ a_m u)) r) (dC, dI) vwCl A 3 (wM cI cJ a_m s_m) 148 [(0, .ref (a_m 0))] [.int y0, .int y1, .ref (a_m 1)] := by
    intro s_m y0 y1 hd
    intro H locs ls hP hD hS hl
    unfold fX7_day_b148 at hd
    refine rx_iast (wM cI cJ a_m (muS s_m (Int32.toNatClampNeg y1) y0)) hx hb hK hP hD hS 1 0 rfl rfl hd (wM_uS ..) dX7_day_148 (fun hd H locs hP hD hS => ?_)
    refine lv_aload_n hx hb dX7_day_149 rfl (lv_at hl 0 rfl) ?_
    refine rx_get hx hb hts fiX7_day_X7 hown hK hP 0 rfl rfl 0 (Nat.le_of_ble_eq_true rfl) fl_7 rfl rfl dX7_day_150 ?_
    refine lv_iconst (v := 1) hx hb dX7_day_153 ki_1 ?_
    refine lv_dup2_11 hx hb dX7_day_154 rfl rfl ?_
    refine rx_iald hx hb hK hP 1 0 rfl rfl hd dX7_day_155 (fun v155 hd => ?_)
    refine lv_iconst (v := 1) hx hb dX7_day_156 ki_1 ?_
    refine lv_iadd hx hb dX7_day_157 ?_
    refine rx_iast (wM cI cJ a_m (muS (muS s_m (Int32.toNatClampNeg y1) y0) (Int32.toNatClampNeg (1 : Int32)) (v155 + (1 : Int32)))) hx hb hK hP hD hS 1 0 rfl rfl hd (wM_uS ..) dX7_day_158 (fun hd H locs hP hD hS => ?_)
    exact rx_retUv (u := (muS (muS s_m (Int32.toNatClampNeg y1) y0) (Int32.toNatClampNeg (1 : Int32)) (v155 + (1 : Int32)))) (w1 := (fun u : MS => (wM cI cJ a_m u))) hx hb hr hlocks hd hK hP hD hS dX7_day_159
  have b67 : ∀ (s_m : MS) (x1 : Int32), fX7_day_b67 fu     s_m x1 = some r → bk_U p l e (headSpec wsX7_day (gRm 5 115)).room s m args below meth c (qUv below args s (dC, dI) vwCl (gty cI cJ cQ) A (fun u : MS => (wM cI cJ a_m u)) r) (dC, dI) vwCl A 3 (wM cI cJ a_m s_m) 67 [(0, .ref (a_m 0)), (1, .int x1)] [] := by
    have L : ∀ (n : Nat) (s_m : MS) (x1 : Int32), g_lp (fun _ _ => none) (fX7_day_b67B fu    ) n s_m x1 = some r → bk_U p l e (headSpec wsX7_day (gRm 5 115)).room s m args below meth c (qUv below args s (dC, dI) vwCl (gty cI cJ cQ) A (fun u : MS => (wM cI cJ a_m u)) r) (dC, dI) vwCl A 3 (wM cI cJ a_m s_m) 67 [(0, .ref (a_m 0)), (1, .int x1)] [] := by
      intro n
      induction n with
      | zero => intro s_m x1 hd; exact absurd hd (by intro h; cases h)
      | succ n k67 =>
        intro s_m x1 hd
        intro H locs ls hP hD hS hl
        have hd : fX7_day_b67B fu     (g_lp (fun _ _ => none) (fX7_day_b67B fu    ) n) s_m x1 = some r := hd
        unfold fX7_day_b67B at hd
        refine lv_iload_n hx hb dX7_day_67 rfl (lv_at hl 1 rfl) ?_
        refine lv_aload_n hx hb dX7_day_68 rfl (lv_at hl 0 rfl) ?_
        refine rx_get hx hb hts fiX7_day_X7 hown hK hP 0 rfl rfl 0 (Nat.le_of_ble_eq_true rfl) fl_7 rfl rfl dX7_day_69 ?_
        refine lv_iconst (v := 0) hx hb dX7_day_72 ki_0 ?_
        refine rx_iald hx hb hK hP 1 0 rfl rfl hd dX7_day_73 (fun v73 hd => ?_)
        refine rx_icmp_ge hx hb 115 dX7_day_74 rfl hd (fun hd => ?_) (fun hd => ?_)
        · refine lv_aload_n hx hb dX7_day_115 rfl (lv_at hl 0 rfl) ?_
          refine rx_get hx hb hts fiX7_day_X7 hown hK hP 0 rfl rfl 0 (Nat.le_of_ble_eq_true rfl) fl_7 rfl rfl dX7_day_116 ?_
          refine lv_iconst (v := 2) hx hb dX7_day_119 ki_2 ?_
          refine rx_iald hx hb hK hP 1 0 rfl rfl hd dX7_day_120 (fun v120 hd => ?_)
          refine lv_aload_n hx hb dX7_day_121 rfl (lv_at hl 0 rfl) ?_
          refine rx_get hx hb hts fiX7_day_X7 hown hK hP 0 rfl rfl 0 (Nat.le_of_ble_eq_true rfl) fl_7 rfl rfl dX7_day_122 ?_
          refine lv_iconst (v := 3) hx hb dX7_day_125 ki_3 ?_
          refine rx_iald hx hb hK hP 1 0 rfl rfl hd dX7_day_126 (fun v126 hd => ?_)
          refine lv_iadd hx hb dX7_day_127 ?_
          refine rx_topi hd (fun x1_128 hd => ?_)
          refine lv_istore_n (lv' := [(1, .int x1_128), (0, .ref (a_m 0))]) hx hb dX7_day_128 rfl hl (Nat.le_of_ble_eq_true rfl) rfl (fun ls hl => ?_)
          refine lv_aload_n hx hb dX7_day_129 rfl (lv_at hl 1 rfl) ?_
          refine rx_get hx hb hts fiX7_day_X7 hown hK hP 0 rfl rfl 0 (Nat.le_of_ble_eq_true rfl) fl_7 rfl rfl dX7_day_130 ?_
          refine lv_iconst (v := 2) hx hb dX7_day_133 ki_2 ?_
          refine lv_iload_n hx hb dX7_day_134 rfl (lv_at hl 0 rfl) ?_
          refine lv_sipush (v := 9999) hx hb dX7_day_135 ks_9999 ?_
          refine rx_icmp_le hx hb 147 dX7_day_138 rfl hd (fun hd => ?_) (fun hd => ?_)
          · refine lv_iload_n hx hb dX7_day_147 rfl (lv_at hl 0 rfl) ?_
            exact b148   s_m x1_128 (2 : Int32) hd _ _ _ hP hD hS (lv_sub hl [1] rfl)
          refine lv_sipush (v := 9999) hx hb dX7_day_141 ks_9999 ?_
          refine lv_goto (tgt := 148) hx hb dX7_day_144 rfl ?_
          exact b148   s_m (9999 : Int32) (2 : Int32) hd _ _ _ hP hD hS (lv_sub hl [1] rfl)
        refine lv_aload_n hx hb dX7_day_77 rfl (lv_at hl 0 rfl) ?_
        refine rx_get hx hb hts fiX7_day_X7 hown hK hP 0 rfl rfl 0 (Nat.le_of_ble_eq_true rfl) fl_7 rfl rfl dX7_day_78 ?_
        refine lv_iload_n hx hb dX7_day_81 rfl (lv_at hl 1 rfl) ?_
        refine lv_iconst (v := 3) hx hb dX7_day_82 ki_3 ?_
        refine rx_roi hd (fun v hv => W.runS (As := [.int x1, .int (3 : Int32)]) (rest := [.ref (a_m 1)]) hcf (c_X7_spot l dC dI cI cJ cQ fu    x1 (3 : Int32) v hv) (va_cwS 2 hts gX7_day_X7_spot rfl rfl rfl cd_X7_spot ⟨(Nat.le_of_ble_eq_true rfl), (Nat.le_of_ble_eq_true rfl)⟩) (cq_R_S hK hP [] rfl) rfl rfl hl.1 rfl (lv_room (Nat.le_of_ble_eq_true rfl)) dX7_day_83 ⟨Nat.le_refl _, Nat.le_refl _⟩) (fun u83 hd => ?_)
        refine lv_iconst (v := 0) hx hb dX7_day_86 ki_0 ?_
        refine rx_iast (wM cI cJ a_m (muS s_m (Int32.toNatClampNeg u83) (0 : Int32))) hx hb hK hP hD hS 1 0 rfl rfl hd (wM_uS ..) dX7_day_87 (fun hd H locs hP hD hS => ?_)
        refine lv_aload_n hx hb dX7_day_88 rfl (lv_at hl 0 rfl) ?_
        refine rx_get hx hb hts fiX7_day_X7 hown hK hP 0 rfl rfl 0 (Nat.le_of_ble_eq_true rfl) fl_7 rfl rfl dX7_day_89 ?_
        refine lv_iload_n hx hb dX7_day_92 rfl (lv_at hl 1 rfl) ?_
        refine lv_iconst (v := 1) hx hb dX7_day_93 ki_1 ?_
        refine rx_roi hd (fun v hv => W.runS (As := [.int x1, .int (1 : Int32)]) (rest := [.ref (a_m 1)]) hcf (c_X7_spot l dC dI cI cJ cQ fu    x1 (1 : Int32) v hv) (va_cwS 2 hts gX7_day_X7_spot rfl rfl rfl cd_X7_spot ⟨(Nat.le_of_ble_eq_true rfl), (Nat.le_of_ble_eq_true rfl)⟩) (cq_R_S hK hP [] rfl) rfl rfl hl.1 rfl (lv_room (Nat.le_of_ble_eq_true rfl)) dX7_day_94 ⟨Nat.le_refl _, Nat.le_refl _⟩) (fun u94 hd => ?_)
        refine lv_dup2_11 hx hb dX7_day_97 rfl rfl ?_
        refine rx_iald hx hb hK hP 1 0 rfl rfl hd dX7_day_98 (fun v98 hd => ?_)
        refine lv_aload_n hx hb dX7_day_99 rfl (lv_at hl 0 rfl) ?_
        refine lv_iload_n hx hb dX7_day_100 rfl (lv_at hl 1 rfl) ?_
        refine lv_iconst (v := 1) hx hb dX7_day_101 ki_1 ?_
        refine rx_roi hd (fun v hv => W.runV (As := [.int x1, .int (1 : Int32)]) (rest := [.int v98, .int u94, .ref (a_m 1)]) hcf (c_X7_its l dC dI cI cJ cQ fu a_m  (muS s_m (Int32.toNatClampNeg u83) (0 : Int32)) x1 (1 : Int32) v hv) (cwV 2 hts gX7_day_X7_its rfl rfl rfl cd_X7_its ⟨(Nat.le_of_ble_eq_true rfl), (Nat.le_of_ble_eq_true rfl)⟩) (cq_R_V1 (q0 := 0) (ci := 6) hK hP rfl rfl) rfl rfl hl.1 rfl (lv_room (Nat.le_of_ble_eq_true rfl)) dX7_day_102 ⟨Nat.le_refl _, Nat.le_refl _⟩) (fun u102 hd => ?_)
        refine lv_iconst (v := 1) hx hb dX7_day_105 ki_1 ?_
        refine lv_isub hx hb dX7_day_106 ?_
        refine lv_iand hx hb dX7_day_107 ?_
        refine rx_iast (wM cI cJ a_m (muS (muS s_m (Int32.toNatClampNeg u83) (0 : Int32)) (Int32.toNatClampNeg u94) (v98 &&& (u102 - (1 : Int32))))) hx hb hK hP hD hS 1 0 rfl rfl hd (wM_uS ..) dX7_day_108 (fun hd H locs hP hD hS => ?_)
        refine rx_iinc (lv' := fun z => (1, .int z) :: [(0, .ref (a_m 0))]) hx hb (j := 1) dX7_day_109 hl rfl ki_1 hd (Nat.le_of_ble_eq_true rfl) (fun _ => rfl) (fun x1_109 hd ls hl => ?_)
        refine lv_goto (tgt := 67) hx hb dX7_day_112 rfl ?_
        exact k67 (muS (muS s_m (Int32.toNatClampNeg u83) (0 : Int32)) (Int32.toNatClampNeg u94) (v98 &&& (u102 - (1 : Int32)))) x1_109 hd _ _ _ hP hD hS (lv_sub hl [1, 0] rfl)
    exact fun s_m x1 => L fu s_m x1
  have b49 : ∀ (s_m : MS) (x1 : Int32), fX7_day_b49 fu     s_m x1 = some r → bk_U p l e (headSpec wsX7_day (gRm 5 115)).room s m args below meth c (qUv below args s (dC, dI) vwCl (gty cI cJ cQ) A (fun u : MS => (wM cI cJ a_m u)) r) (dC, dI) vwCl A 3 (wM cI cJ a_m s_m) 49 [(0, .ref (a_m 0)), (1, .int x1)] [] := by
    have L : ∀ (n : Nat) (s_m : MS) (x1 : Int32), g_lp (fun _ _ => none) (fX7_day_b49B fu    ) n s_m x1 = some r → bk_U p l e (headSpec wsX7_day (gRm 5 115)).room s m args below meth c (qUv below args s (dC, dI) vwCl (gty cI cJ cQ) A (fun u : MS => (wM cI cJ a_m u)) r) (dC, dI) vwCl A 3 (wM cI cJ a_m s_m) 49 [(0, .ref (a_m 0)), (1, .int x1)] [] := by
      intro n
      induction n with
      | zero => intro s_m x1 hd; exact absurd hd (by intro h; cases h)
      | succ n k49 =>
        intro s_m x1 hd
        intro H locs ls hP hD hS hl
        have hd : fX7_day_b49B fu     (g_lp (fun _ _ => none) (fX7_day_b49B fu    ) n) s_m x1 = some r := hd
        unfold fX7_day_b49B at hd
        refine lv_iload_n hx hb dX7_day_49 rfl (lv_at hl 1 rfl) ?_
        refine lv_iconst (v := 4) hx hb dX7_day_50 ki_4 ?_
        refine rx_icmp_ge hx hb 65 dX7_day_51 rfl hd (fun hd => ?_) (fun hd => ?_)
        · refine lv_iconst (v := 0) hx hb dX7_day_65 ki_0 ?_
          refine lv_istore_n (lv' := [(1, .int (0 : Int32)), (0, .ref (a_m 0))]) hx hb dX7_day_66 rfl hl (Nat.le_of_ble_eq_true rfl) rfl (fun ls hl => ?_)
          exact b67   s_m (0 : Int32) hd _ _ _ hP hD hS (lv_sub hl [1, 0] rfl)
        refine lv_aload_n hx hb dX7_day_54 rfl (lv_at hl 0 rfl) ?_
        refine lv_iload_n hx hb dX7_day_55 rfl (lv_at hl 1 rfl) ?_
        refine rx_upv1 hd hD hS hA (fun v hv => va_runV (As := [.int x1]) (rest := []) hcf (c_X7_uses l dC dI cI cJ cQ fu a_m _  s_m x1 v hv) (cwV 1 hts gX7_day_X7_uses rfl rfl rfl cd_X7_uses ⟨(Nat.le_of_ble_eq_true rfl), (Nat.le_of_ble_eq_true rfl)⟩) (cq_U_V1 (q0 := 0) (ci := 6) hK hP hD rfl rfl) rfl rfl hl.1 rfl (lv_room (Nat.le_of_ble_eq_true rfl)) dX7_day_56 ⟨Nat.le_refl _, Nat.le_refl _⟩) (fun u56 hd H locs hP hD hS => ?_)
        refine rx_iinc (lv' := fun z => (1, .int z) :: [(0, .ref (a_m 0))]) hx hb (j := 1) dX7_day_59 hl rfl ki_1 hd (Nat.le_of_ble_eq_true rfl) (fun _ => rfl) (fun x1_59 hd ls hl => ?_)
        refine lv_goto (tgt := 49) hx hb dX7_day_62 rfl ?_
        exact k49 u56 x1_59 hd _ _ _ hP hD hS (lv_sub hl [1, 0] rfl)
    exact fun s_m x1 => L fu s_m x1
  have b7 : ∀ (s_m : MS) (x1 : Int32), fX7_day_b7 fu     s_m x1 = some r → bk_U p l e (headSpec wsX7_day (gRm 5 115)).room s m args below meth c (qUv below args s (dC, dI) vwCl (gty cI cJ cQ) A (fun u : MS => (wM cI cJ a_m u)) r) (dC, dI) vwCl A 3 (wM cI cJ a_m s_m) 7 [(0, .ref (a_m 0)), (1, .int x1)] [] := by
    have L : ∀ (n : Nat) (s_m : MS) (x1 : Int32), g_lp (fun _ _ => none) (fX7_day_b7B fu    ) n s_m x1 = some r → bk_U p l e (headSpec wsX7_day (gRm 5 115)).room s m args below meth c (qUv below args s (dC, dI) vwCl (gty cI cJ cQ) A (fun u : MS => (wM cI cJ a_m u)) r) (dC, dI) vwCl A 3 (wM cI cJ a_m s_m) 7 [(0, .ref (a_m 0)), (1, .int x1)] [] := by
      intro n
      induction n with
      | zero => intro s_m x1 hd; exact absurd hd (by intro h; cases h)
      | succ n k7 =>
        intro s_m x1 hd
        intro H locs ls hP hD hS hl
        have hd : fX7_day_b7B fu     (g_lp (fun _ _ => none) (fX7_day_b7B fu    ) n) s_m x1 = some r := hd
        unfold fX7_day_b7B at hd
        refine lv_iload_n hx hb dX7_day_7 rfl (lv_at hl 1 rfl) ?_
        refine lv_iconst (v := 4) hx hb dX7_day_8 ki_4 ?_
        refine rx_icmp_ge hx hb 47 dX7_day_9 rfl hd (fun hd => ?_) (fun hd => ?_)
        · refine lv_iconst (v := 0) hx hb dX7_day_47 ki_0 ?_
          refine lv_istore_n (lv' := [(1, .int (0 : Int32)), (0, .ref (a_m 0))]) hx hb dX7_day_48 rfl hl (Nat.le_of_ble_eq_true rfl) rfl (fun ls hl => ?_)
          exact b49   s_m (0 : Int32) hd _ _ _ hP hD hS (lv_sub hl [1, 0] rfl)
        refine lv_aload_n hx hb dX7_day_12 rfl (lv_at hl 0 rfl) ?_
        refine rx_get hx hb hts fiX7_day_X7 hown hK hP 0 rfl rfl 0 (Nat.le_of_ble_eq_true rfl) fl_7 rfl rfl dX7_day_13 ?_
        refine lv_iload_n hx hb dX7_day_16 rfl (lv_at hl 1 rfl) ?_
        refine lv_iconst (v := 3) hx hb dX7_day_17 ki_3 ?_
        refine rx_roi hd (fun v hv => W.runS (As := [.int x1, .int (3 : Int32)]) (rest := [.ref (a_m 1)]) hcf (c_X7_field l dC dI cI cJ cQ fu    x1 (3 : Int32) v hv) (va_cwS 2 hts gX7_day_X7_field rfl rfl rfl cd_X7_field ⟨(Nat.le_of_ble_eq_true rfl), (Nat.le_of_ble_eq_true rfl)⟩) (cq_R_S hK hP [] rfl) rfl rfl hl.1 rfl (lv_room (Nat.le_of_ble_eq_true rfl)) dX7_day_18 ⟨Nat.le_refl _, Nat.le_refl _⟩) (fun u18 hd => ?_)
        refine rx_iald hx hb hK hP 1 0 rfl rfl hd dX7_day_21 (fun v21 hd => ?_)
        refine rx_if_lt hx hb 41 dX7_day_22 rfl hd (fun hd => ?_) (fun hd => ?_)
        · refine rx_iinc (lv' := fun z => (1, .int z) :: [(0, .ref (a_m 0))]) hx hb (j := 1) dX7_day_41 hl rfl ki_1 hd (Nat.le_of_ble_eq_true rfl) (fun _ => rfl) (fun x1_41 hd ls hl => ?_)
          refine lv_goto (tgt := 7) hx hb dX7_day_44 rfl ?_
          exact k7 s_m x1_41 hd _ _ _ hP hD hS (lv_sub hl [1, 0] rfl)
        refine lv_aload_n hx hb dX7_day_25 rfl (lv_at hl 0 rfl) ?_
        refine lv_aload_n hx hb dX7_day_26 rfl (lv_at hl 0 rfl) ?_
        refine rx_get hx hb hts fiX7_day_X7 hown hK hP 0 rfl rfl 0 (Nat.le_of_ble_eq_true rfl) fl_7 rfl rfl dX7_day_27 ?_
        refine lv_iload_n hx hb dX7_day_30 rfl (lv_at hl 1 rfl) ?_
        refine lv_iconst (v := 3) hx hb dX7_day_31 ki_3 ?_
        refine rx_roi hd (fun v hv => W.runS (As := [.int x1, .int (3 : Int32)]) (rest := [.ref (a_m 1), .ref (a_m 0)]) hcf (c_X7_field l dC dI cI cJ cQ fu    x1 (3 : Int32) v hv) (va_cwS 2 hts gX7_day_X7_field rfl rfl rfl cd_X7_field ⟨(Nat.le_of_ble_eq_true rfl), (Nat.le_of_ble_eq_true rfl)⟩) (cq_R_S hK hP [] rfl) rfl rfl hl.1 rfl (lv_room (Nat.le_of_ble_eq_true rfl)) dX7_day_32 ⟨Nat.le_refl _, Nat.le_refl _⟩) (fun u32 hd => ?_)
        refine rx_iald hx hb hK hP 1 0 rfl rfl hd dX7_day_35 (fun v35 hd => ?_)
        refine lv_iload_n hx hb dX7_day_36 rfl (lv_at hl 1 rfl) ?_
        refine rx_upi1 hd hD hS hA (fun v hv => va_runV (As := [.int v35, .int x1]) (rest := []) hcf (c_X7_pulls l dC dI cI cJ cQ fu a_m _  s_m v35 x1 v hv) (cwV 2 hts gX7_day_X7_pulls rfl rfl rfl cd_X7_pulls ⟨(Nat.le_of_ble_eq_true rfl), (Nat.le_of_ble_eq_true rfl)⟩) (cq_U_V1 (q0 := 0) (ci := 6) hK hP hD rfl rfl) rfl rfl hl.1 rfl (lv_room (Nat.le_of_ble_eq_true rfl)) dX7_day_37 ⟨Nat.le_refl _, Nat.le_refl _⟩) (fun u37 hd H locs hP hD hS => ?_)
        refine lv_istore_n (lv' := [(2, .int u37.1), (0, .ref (a_m 0)), (1, .int x1)]) hx hb dX7_day_40 rfl hl (Nat.le_of_ble_eq_true rfl) rfl (fun ls hl => ?_)
        refine rx_iinc (lv' := fun z => (1, .int z) :: [(2, .int u37.1), (0, .ref (a_m 0))]) hx hb (j := 2) dX7_day_41 hl rfl ki_1 hd (Nat.le_of_ble_eq_true rfl) (fun _ => rfl) (fun x1_41 hd ls hl => ?_)
        refine lv_goto (tgt := 7) hx hb dX7_day_44 rfl ?_
        exact k7 u37.2 x1_41 hd _ _ _ hP hD hS (lv_sub hl [2, 0] rfl)
    exact fun s_m x1 => L fu s_m x1
  refine lv_aload_n hx hb dX7_day_0 rfl (lv_at hl 0 rfl) ?_
  refine lv_iconst (v := 0) hx hb dX7_day_1 ki_0 ?_
  refine rx_puti (wM cI cJ a_m (msDryNow s_m (0 : Int32))) hx hb hts fiX7_day_X7 tyX7 tyX7_ok nmX7 hown hK hP hD hS 0 rfl rfl 6 (Nat.le_of_ble_eq_true rfl) fl_118 rfl rfl rfl (Nat.le_of_ble_eq_true rfl) (wM_sDryNow ..) dX7_day_2 (fun H locs hP hD hS => ?_)
  refine lv_iconst (v := 0) hx hb dX7_day_5 ki_0 ?_
  refine lv_istore_n (lv' := [(1, .int (0 : Int32)), (0, .ref (a_m 0))]) hx hb dX7_day_6 rfl hl (Nat.le_of_ble_eq_true rfl) rfl (fun ls hl => ?_)
  exact b7   (msDryNow s_m (0 : Int32)) (0 : Int32) hd _ _ _ hP hD hS (lv_sub hl [1, 0] rfl)
set_option maxHeartbeats 8000000 in
set_option maxRecDepth 100000 in
theorem c_X7_goesOn (l : Launch) (dC : Nat → ClassId) (dI : Nat → Nat → Nat) (cI cJ cQ : ClassId) (fu : Nat) (a_m : Nat → Nat) (sz : Nat) (s_m : MS) (x1 : Int32) (r : MS) (hd : fX7_goesOn fu  s_m x1 = some r) : mUv l yX7_goesOn wsX7_goesOn (gRm 6 137) [.ref (a_m 0), .int x1] (dC, dI) vwCl (gty cI cJ cQ) (wM cI cJ a_m s_m) sz (fun u : MS => (wM cI cJ a_m u)) r := by
  refine Met.ofW (cc := cX7_goesOn) (maxL := 3) (ret := none) (by decide) rfl ?_
  intro p e s m args below meth c s₁ B hml hv
  obtain ⟨hav, hsz, hP, hK, hD0⟩ := hv
  subst hsz
  have hD := hD0.self (sz := s.heap.size)
  generalize hAe : va_A (wM cI cJ a_m s_m) s.heap.size = A at hD ⊢
  have hA : ∀ q : Nat, s.heap.size ≤ q → A q := fun q h => by rw [← hAe]; exact Or.inr h
  have hS : va_S A s.heap s.heap [] := va_S.rf
  have hx := B.exec
  have hb := B.bytes
  have hr := B.returns
  have hts := atoms_spec (ws := wsX7_goesOn) B.pre
  have hown : s.vm.findClass RX7 = some m.cls := findClass_of_methodNamed B.named
  have hlocks := B.notSynchronized
  have hcf : CallFix p m c cX7_goesOn 3 s args wsX7_goesOn RX7 := ⟨hx, hb, hml, hown, hts⟩
  have hg : entryFrame m args 3 = entryFrame m ([.ref (a_m 0), .int x1] : List Value).toArray 3 := by rw [hav]
  rw [hg, lg_entry_eq]
  have hl := lv_entry ([.ref (a_m 0), .int x1]) (n := 3) (Nat.le_of_ble_eq_true rfl)
  generalize (lg_sl ([.ref (a_m 0), .int x1]) ++ List.replicate (3 - (lg_sl ([.ref (a_m 0), .int x1])).length) Slot.unset).toArray = ls at hl ⊢
  have hl : lv_has ls 3 [(0, .ref (a_m 0)), (1, .int x1)] := hl
  clear hg
  unfold fX7_goesOn at hd
  have b2 : ∀ (x1 : Int32) (s_m : MS) (x2 : Int32), fX7_goesOn_b2 fu    x1 s_m x2 = some r → bk_U p l e (headSpec wsX7_goesOn (gRm 6 137)).room s m args below meth c (qUv below args s (dC, dI) vwCl (gty cI cJ cQ) A (fun u : MS => (wM cI cJ a_m u)) r) (dC, dI) vwCl A 3 (wM cI cJ a_m s_m) 2 [(0, .ref (a_m 0)), (1, .int x1), (2, .int x2)] [] := by
    intro x1
    have L : ∀ (n : Nat) (s_m : MS) (x2 : Int32), g_lp (fun _ _ => none) (fX7_goesOn_b2B fu    x1) n s_m x2 = some r → bk_U p l e (headSpec wsX7_goesOn (gRm 6 137)).room s m args below meth c (qUv below args s (dC, dI) vwCl (gty cI cJ cQ) A (fun u : MS => (wM cI cJ a_m u)) r) (dC, dI) vwCl A 3 (wM cI cJ a_m s_m) 2 [(0, .ref (a_m 0)), (1, .int x1), (2, .int x2)] [] := by
      intro n
      induction n with
      | zero => intro s_m x2 hd; exact absurd hd (by intro h; cases h)
      | succ n k2 =>
        intro s_m x2 hd
        intro H locs ls hP hD hS hl
        have hd : fX7_goesOn_b2B fu    x1 (g_lp (fun _ _ => none) (fX7_goesOn_b2B fu    x1) n) s_m x2 = some r := hd
        unfold fX7_goesOn_b2B at hd
        refine lv_iload_n hx hb dX7_goesOn_2 rfl (lv_at hl 2 rfl) ?_
        refine lv_iload_n hx hb dX7_goesOn_3 rfl (lv_at hl 1 rfl) ?_
        refine rx_icmp_ge hx hb 17 dX7_goesOn_4 rfl hd (fun hd => ?_) (fun hd => ?_)
        · exact rx_retUv (u := s_m) (w1 := (fun u : MS => (wM cI cJ a_m u))) hx hb hr hlocks hd hK hP hD hS dX7_goesOn_17
        refine lv_aload_n hx hb dX7_goesOn_7 rfl (lv_at hl 0 rfl) ?_
        refine rx_upv1 hd hD hS hA (fun v hv => va_runV (As := []) (rest := []) hcf (c_X7_day l dC dI cI cJ cQ fu a_m _  s_m  v hv) (cwV 0 hts gX7_goesOn_X7_day rfl rfl rfl cd_X7_day ⟨(Nat.le_of_ble_eq_true rfl), (Nat.le_of_ble_eq_true rfl)⟩) (cq_U_V1 (q0 := 0) (ci := 6) hK hP hD rfl rfl) rfl rfl hl.1 rfl (lv_room (Nat.le_of_ble_eq_true rfl)) dX7_goesOn_8 ⟨Nat.le_refl _, Nat.le_refl _⟩) (fun u8 hd H locs hP hD hS => ?_)
        refine rx_iinc (lv' := fun z => (2, .int z) :: [(0, .ref (a_m 0)), (1, .int x1)]) hx hb (j := 2) dX7_goesOn_11 hl rfl ki_1 hd (Nat.le_of_ble_eq_true rfl) (fun _ => rfl) (fun x2_11 hd ls hl => ?_)
        refine lv_goto (tgt := 2) hx hb dX7_goesOn_14 rfl ?_
        exact k2 u8 x2_11 hd _ _ _ hP hD hS (lv_sub hl [1, 2, 0] rfl)
    exact fun s_m x2 => L fu s_m x2
  refine lv_iconst (v := 0) hx hb dX7_goesOn_0 ki_0 ?_
  refine lv_istore_n (lv' := [(2, .int (0 : Int32)), (0, .ref (a_m 0)), (1, .int x1)]) hx hb dX7_goesOn_1 rfl hl (Nat.le_of_ble_eq_true rfl) rfl (fun ls hl => ?_)
  exact b2   x1 s_m (0 : Int32) hd _ _ _ hP hD hS (lv_sub hl [1, 2, 0] rfl)
theorem fiX7_together_X7 : ∀ w ∈ wsX70, w ∈ wsX7_together := mem_r _ [6, 7, 8, 9, 10, 11, 12, 13, 14, 15, 16, 17, 18, 19, 20, 21, 22, 23] rfl
set_option maxHeartbeats 8000000 in
set_option maxRecDepth 100000 in
theorem c_X7_together (l : Launch) (dC : Nat → ClassId) (dI : Nat → Nat → Nat) (cI cJ cQ : ClassId) (fu : Nat) (a_m : Nat → Nat) (s_m : MS) (x1 : Int32) (r : Int32) (hd : fX7_together fu  s_m x1 = some r) : mRi l yX7_together wsX7_together (gRm 1 21) [.ref (a_m 0), .int x1] (cq_R (dC, dI) vwCl (gty cI cJ cQ) (wM cI cJ a_m s_m)) r := by
  refine Met.ofW (cc := cX7_together) (maxL := 4) (ret := (some .int)) (by decide) rfl ?_
  intro p e s m args below meth c s₁ B hml hv
  obtain ⟨hav, hP, hK⟩ := hv
  have hx := B.exec
  have hb := B.bytes
  have hr := B.returns
  have hts := atoms_spec (ws := wsX7_together) B.pre
  have hown : s.vm.findClass RX7 = some m.cls := findClass_of_methodNamed B.named
  have hlocks := B.notSynchronized
  have hcf : CallFix p m c cX7_together 4 s args wsX7_together RX7 := ⟨hx, hb, hml, hown, hts⟩
  have fl_7 := hts (.fieldLink RX7 7 "BucketGiftModel" "s" "[I") (List.mem_of_getElem? (i := 1) rfl)
  have hg : entryFrame m args 4 = entryFrame m ([.ref (a_m 0), .int x1] : List Value).toArray 4 := by rw [hav]
  rw [hg, lg_entry_eq]
  have hl := lv_entry ([.ref (a_m 0), .int x1]) (n := 4) (Nat.le_of_ble_eq_true rfl)
  generalize (lg_sl ([.ref (a_m 0), .int x1]) ++ List.replicate (4 - (lg_sl ([.ref (a_m 0), .int x1])).length) Slot.unset).toArray = ls at hl ⊢
  have hl : lv_has ls 4 [(0, .ref (a_m 0)), (1, .int x1)] := hl
  clear hg
  unfold fX7_together at hd
  have b4 : ∀ (x1 : Int32) (x2 : Int32) (x3 : Int32), fX7_together_b4 fu s_m   x1 x2 x3 = some r → bk_R p l e (headSpec wsX7_together (gRm 1 21)).room s m args below meth c (qRi below args s r) 4 4 [(0, .ref (a_m 0)), (1, .int x1), (2, .int x2), (3, .int x3)] [] := by
    intro x1
    have L : ∀ (n : Nat) (x2 : Int32) (x3 : Int32), g_lp (fun _ _ => none) (fX7_together_b4B fu s_m   x1) n x2 x3 = some r → bk_R p l e (headSpec wsX7_together (gRm 1 21)).room s m args below meth c (qRi below args s r) 4 4 [(0, .ref (a_m 0)), (1, .int x1), (2, .int x2), (3, .int x3)] [] := by
      intro n
      induction n with
      | zero => intro x2 x3 hd; exact absurd hd (by intro h; cases h)
      | succ n k4 =>
        intro x2 x3 hd
        intro ls hl
        have hd : fX7_together_b4B fu s_m   x1 (g_lp (fun _ _ => none) (fX7_together_b4B fu s_m   x1) n) x2 x3 = some r := hd
        unfold fX7_together_b4B at hd
        refine lv_iload_n hx hb dX7_together_4 rfl (lv_at hl 3 rfl) ?_
        refine lv_iconst (v := 4) hx hb dX7_together_5 ki_4 ?_
        refine rx_icmp_ge hx hb 28 dX7_together_6 rfl hd (fun hd => ?_) (fun hd => ?_)
        · refine lv_iload_n hx hb dX7_together_28 rfl (lv_at hl 2 rfl) ?_
          exact rx_retRi hx hb hr hlocks hd dX7_together_29
        refine lv_iload_n hx hb dX7_together_9 rfl (lv_at hl 2 rfl) ?_
        refine lv_aload_n hx hb dX7_together_10 rfl (lv_at hl 0 rfl) ?_
        refine rx_get hx hb hts fiX7_together_X7 hown hK hP 0 rfl rfl 0 (Nat.le_of_ble_eq_true rfl) fl_7 rfl rfl dX7_together_11 ?_
        refine lv_iload_n hx hb dX7_together_14 rfl (lv_at hl 3 rfl) ?_
        refine lv_iload_n hx hb dX7_together_15 rfl (lv_at hl 1 rfl) ?_
        refine rx_roi hd (fun v hv => W.runS (As := [.int x3, .int x1]) (rest := [.ref (a_m 1), .int x2]) hcf (c_X7_field l dC dI cI cJ cQ fu    x3 x1 v hv) (va_cwS 2 hts gX7_together_X7_field rfl rfl rfl cd_X7_field ⟨(Nat.le_of_ble_eq_true rfl), (Nat.le_of_ble_eq_true rfl)⟩) (cq_R_S hK hP [] rfl) rfl rfl hl.1 rfl (lv_room (Nat.le_of_ble_eq_true rfl)) dX7_together_16 ⟨Nat.le_refl _, Nat.le_refl _⟩) (fun u16 hd => ?_)
        refine rx_iald hx hb hK hP 1 0 rfl rfl hd dX7_together_19 (fun v19 hd => ?_)
        refine lv_iadd hx hb dX7_together_20 ?_
        refine rx_topi hd (fun x2_21 hd => ?_)
        refine lv_istore_n (lv' := [(2, .int x2_21), (0, .ref (a_m 0)), (1, .int x1), (3, .int x3)]) hx hb dX7_together_21 rfl hl (Nat.le_of_ble_eq_true rfl) rfl (fun ls hl => ?_)
        refine rx_iinc (lv' := fun z => (3, .int z) :: [(2, .int x2_21), (0, .ref (a_m 0)), (1, .int x1)]) hx hb (j := 3) dX7_together_22 hl rfl ki_1 hd (Nat.le_of_ble_eq_true rfl) (fun _ => rfl) (fun x3_22 hd ls hl => ?_)
        refine lv_goto (tgt := 4) hx hb dX7_together_25 rfl ?_
        exact k4 x2_21 x3_22 hd _ (lv_sub hl [2, 3, 1, 0] rfl)
    exact fun x2 x3 => L fu x2 x3
  refine lv_iconst (v := 0) hx hb dX7_together_0 ki_0 ?_
  refine lv_istore_n (lv' := [(2, .int (0 : Int32)), (0, .ref (a_m 0)), (1, .int x1)]) hx hb dX7_together_1 rfl hl (Nat.le_of_ble_eq_true rfl) rfl (fun ls hl => ?_)
  refine lv_iconst (v := 0) hx hb dX7_together_2 ki_0 ?_
  refine lv_istore_n (lv' := [(3, .int (0 : Int32)), (2, .int (0 : Int32)), (0, .ref (a_m 0)), (1, .int x1)]) hx hb dX7_together_3 rfl hl (Nat.le_of_ble_eq_true rfl) rfl (fun ls hl => ?_)
  exact b4   x1 (0 : Int32) (0 : Int32) hd _ (lv_sub hl [2, 3, 1, 0] rfl)
theorem fiX7_days_X7 : ∀ w ∈ wsX70, w ∈ wsX7_days := mem_r _ [56, 57, 58, 59, 60, 61, 62, 63, 64, 65, 66, 67, 68, 69, 70, 71, 72, 73] rfl
set_option maxHeartbeats 8000000 in
set_option maxRecDepth 100000 in
theorem c_X7_days (l : Launch) (dC : Nat → ClassId) (dI : Nat → Nat → Nat) (cI cJ cQ : ClassId) (fu : Nat) (a_m : Nat → Nat) (sz : Nat) (s_m : MS) (x1 : Int32) (r : Int32 × MS) (hd : fX7_days fu  s_m x1 = some r) : mUi l yX7_days wsX7_days (gRm 7 159) [.ref (a_m 0), .int x1] (dC, dI) vwCl (gty cI cJ cQ) (wM cI cJ a_m s_m) sz (fun u : MS => (wM cI cJ a_m u)) r := by
  refine Met.ofW (cc := cX7_days) (maxL := 2) (ret := (some .int)) (by decide) rfl ?_
  intro p e s m args below meth c s₁ B hml hv
  obtain ⟨hav, hsz, hP, hK, hD0⟩ := hv
  subst hsz
  have hD := hD0.self (sz := s.heap.size)
  generalize hAe : va_A (wM cI cJ a_m s_m) s.heap.size = A at hD ⊢
  have hA : ∀ q : Nat, s.heap.size ≤ q → A q := fun q h => by rw [← hAe]; exact Or.inr h
  have hS : va_S A s.heap s.heap [] := va_S.rf
  have hx := B.exec
  have hb := B.bytes
  have hr := B.returns
  have hts := atoms_spec (ws := wsX7_days) B.pre
  have hown : s.vm.findClass RX7 = some m.cls := findClass_of_methodNamed B.named
  have hlocks := B.notSynchronized
  have hcf : CallFix p m c cX7_days 2 s args wsX7_days RX7 := ⟨hx, hb, hml, hown, hts⟩
  have fl_7 := hts (.fieldLink RX7 7 "BucketGiftModel" "s" "[I") (List.mem_of_getElem? (i := 3) rfl)
  have kc_129 := hts (.constantLong RX7 129 (60)) (List.mem_of_getElem? (i := 1) rfl)
  have kc_131 := hts (.constant RX7 131 (-1000000005)) (List.mem_of_getElem? (i := 4) rfl)
  have kc_48 := hts (.constant RX7 48 (-1000000001)) (List.mem_of_getElem? (i := 2) rfl)
  have hg : entryFrame m args 2 = entryFrame m ([.ref (a_m 0), .int x1] : List Value).toArray 2 := by rw [hav]
  rw [hg, lg_entry_eq]
  have hl := lv_entry ([.ref (a_m 0), .int x1]) (n := 2) (Nat.le_of_ble_eq_true rfl)
  generalize (lg_sl ([.ref (a_m 0), .int x1]) ++ List.replicate (2 - (lg_sl ([.ref (a_m 0), .int x1])).length) Slot.unset).toArray = ls at hl ⊢
  have hl : lv_has ls 2 [(0, .ref (a_m 0)), (1, .int x1)] := hl
  clear hg
  unfold fX7_days at hd
  refine lv_iload_n hx hb dX7_days_0 rfl (lv_at hl 1 rfl) ?_
  refine lv_i2l hx hb dX7_days_1 rfl ?_
  refine lv_lconst (v := 1) hx hb dX7_days_2 rfl ?_
  refine lv_ldc2 hx hb hown kc_129 dX7_days_3 ?_
  refine rx_roi hd (fun v hv => W.runS (As := [.long (Int32.toInt64 x1), .long (1 : Int64), .long (60 : Int64)]) (rest := []) hcf (c_X7_in l dC dI cI cJ cQ fu    (Int32.toInt64 x1) (1 : Int64) (60 : Int64) v hv) (va_cwS 3 hts gX7_days_X7_in rfl rfl rfl cd_X7_in ⟨(Nat.le_of_ble_eq_true rfl), (Nat.le_of_ble_eq_true rfl)⟩) (cq_R_S hK hP [] rfl) rfl rfl hl.1 rfl (lv_room (Nat.le_of_ble_eq_true rfl)) dX7_days_6 ⟨Nat.le_refl _, Nat.le_refl _⟩) (fun u6 hd => ?_)
  refine rx_if_ne hx hb 19 dX7_days_9 rfl hd (fun hd => ?_) (fun hd => ?_)
  · refine lv_aload_n hx hb dX7_days_19 rfl (lv_at hl 0 rfl) ?_
    refine rx_get hx hb hts fiX7_days_X7 hown hK hP 0 rfl rfl 0 (Nat.le_of_ble_eq_true rfl) fl_7 rfl rfl dX7_days_20 ?_
    refine lv_iconst (v := 1) hx hb dX7_days_23 ki_1 ?_
    refine rx_iald hx hb hK hP 1 0 rfl rfl hd dX7_days_24 (fun v24 hd => ?_)
    refine lv_iload_n hx hb dX7_days_25 rfl (lv_at hl 1 rfl) ?_
    refine lv_iadd hx hb dX7_days_26 ?_
    refine lv_sipush (v := 9999) hx hb dX7_days_27 ks_9999 ?_
    refine rx_icmp_le hx hb 40 dX7_days_30 rfl hd (fun hd => ?_) (fun hd => ?_)
    · refine lv_aload_n hx hb dX7_days_40 rfl (lv_at hl 0 rfl) ?_
      refine lv_iload_n hx hb dX7_days_41 rfl (lv_at hl 1 rfl) ?_
      refine rx_upv1 hd hD hS hA (fun v hv => va_runV (As := [.int x1]) (rest := []) hcf (c_X7_goesOn l dC dI cI cJ cQ fu a_m _  s_m x1 v hv) (cwV 1 hts gX7_days_X7_goesOn rfl rfl rfl cd_X7_goesOn ⟨(Nat.le_of_ble_eq_true rfl), (Nat.le_of_ble_eq_true rfl)⟩) (cq_U_V1 (q0 := 0) (ci := 6) hK hP hD rfl rfl) rfl rfl hl.1 rfl (lv_room (Nat.le_of_ble_eq_true rfl)) dX7_days_42 ⟨Nat.le_refl _, Nat.le_refl _⟩) (fun u42 hd H locs hP hD hS => ?_)
      refine lv_aload_n hx hb dX7_days_45 rfl (lv_at hl 0 rfl) ?_
      refine lv_iconst (v := 2) hx hb dX7_days_46 ki_2 ?_
      refine rx_roi hd (fun v hv => W.runV (As := [.int (2 : Int32)]) (rest := []) hcf (c_X7_together l dC dI cI cJ cQ fu a_m  u42 (2 : Int32) v hv) (cwV 1 hts gX7_days_X7_together rfl rfl rfl cd_X7_together ⟨(Nat.le_of_ble_eq_true rfl), (Nat.le_of_ble_eq_true rfl)⟩) (cq_R_V1 (q0 := 0) (ci := 6) hK hP rfl rfl) rfl rfl hl.1 rfl (lv_room (Nat.le_of_ble_eq_true rfl)) dX7_days_47 ⟨Nat.le_refl _, Nat.le_refl _⟩) (fun u47 hd => ?_)
      exact rx_retUi (u := u42) (w1 := (fun u : MS => (wM cI cJ a_m u))) hx hb hr hlocks hd hK hP hD hS dX7_days_50
    refine lv_aload_n hx hb dX7_days_33 rfl (lv_at hl 0 rfl) ?_
    refine lv_ldc hx hb hown kc_131 dX7_days_34 ?_
    refine rx_upi1 hd hD hS hA (fun v hv => va_runV (As := [.int (-1000000005 : Int32)]) (rest := []) hcf (c_X7_finds l dC dI cI cJ cQ fu a_m _  s_m (-1000000005 : Int32) v hv) (cwV 1 hts gX7_days_X7_finds rfl rfl rfl cd_X7_finds ⟨(Nat.le_of_ble_eq_true rfl), (Nat.le_of_ble_eq_true rfl)⟩) (cq_U_V1 (q0 := 0) (ci := 6) hK hP hD rfl rfl) rfl rfl hl.1 rfl (lv_room (Nat.le_of_ble_eq_true rfl)) dX7_days_36 ⟨Nat.le_refl _, Nat.le_refl _⟩) (fun u36 hd H locs hP hD hS => ?_)
    exact rx_retUi (u := u36.2) (w1 := (fun u : MS => (wM cI cJ a_m u))) hx hb hr hlocks hd hK hP hD hS dX7_days_39
  refine lv_aload_n hx hb dX7_days_12 rfl (lv_at hl 0 rfl) ?_
  refine lv_ldc hx hb hown kc_48 dX7_days_13 ?_
  refine rx_upi1 hd hD hS hA (fun v hv => va_runV (As := [.int (-1000000001 : Int32)]) (rest := []) hcf (c_X7_finds l dC dI cI cJ cQ fu a_m _  s_m (-1000000001 : Int32) v hv) (cwV 1 hts gX7_days_X7_finds rfl rfl rfl cd_X7_finds ⟨(Nat.le_of_ble_eq_true rfl), (Nat.le_of_ble_eq_true rfl)⟩) (cq_U_V1 (q0 := 0) (ci := 6) hK hP hD rfl rfl) rfl rfl hl.1 rfl (lv_room (Nat.le_of_ble_eq_true rfl)) dX7_days_15 ⟨Nat.le_refl _, Nat.le_refl _⟩) (fun u15 hd H locs hP hD hS => ?_)
  exact rx_retUi (u := u15.2) (w1 := (fun u : MS => (wM cI cJ a_m u))) hx hb hr hlocks hd hK hP hD hS dX7_days_18
theorem fiX7_now_X7 : ∀ w ∈ wsX70, w ∈ wsX7_now := mem_r _ [16, 17, 18, 19, 20, 21, 22, 23, 24, 25, 26, 27, 28, 29, 30, 31, 32, 33] rfl
set_option maxHeartbeats 8000000 in
set_option maxRecDepth 100000 in
theorem c_X7_now (l : Launch) (dC : Nat → ClassId) (dI : Nat → Nat → Nat) (cI cJ cQ : ClassId) (fu : Nat) (a_m : Nat → Nat) (sz : Nat) (s_m : MS) (x1 : Int32) (r : Int32 × MS) (hd : fX7_now fu  s_m x1 = some r) : mUi l yX7_now wsX7_now (gRm 2 44) [.ref (a_m 0), .int x1] (dC, dI) vwCl (gty cI cJ cQ) (wM cI cJ a_m s_m) sz (fun u : MS => (wM cI cJ a_m u)) r := by
  refine Met.ofW (cc := cX7_now) (maxL := 2) (ret := (some .int)) (by decide) rfl ?_
  intro p e s m args below meth c s₁ B hml hv
  obtain ⟨hav, hsz, hP, hK, hD0⟩ := hv
  subst hsz
  have hD := hD0.self (sz := s.heap.size)
  generalize hAe : va_A (wM cI cJ a_m s_m) s.heap.size = A at hD ⊢
  have hA : ∀ q : Nat, s.heap.size ≤ q → A q := fun q h => by rw [← hAe]; exact Or.inr h
  have hS : va_S A s.heap s.heap [] := va_S.rf
  have hx := B.exec
  have hb := B.bytes
  have hr := B.returns
  have hts := atoms_spec (ws := wsX7_now) B.pre
  have hown : s.vm.findClass RX7 = some m.cls := findClass_of_methodNamed B.named
  have hlocks := B.notSynchronized
  have hcf : CallFix p m c cX7_now 2 s args wsX7_now RX7 := ⟨hx, hb, hml, hown, hts⟩
  have fl_7 := hts (.fieldLink RX7 7 "BucketGiftModel" "s" "[I") (List.mem_of_getElem? (i := 1) rfl)
  have kc_48 := hts (.constant RX7 48 (-1000000001)) (List.mem_of_getElem? (i := 2) rfl)
  have hg : entryFrame m args 2 = entryFrame m ([.ref (a_m 0), .int x1] : List Value).toArray 2 := by rw [hav]
  rw [hg, lg_entry_eq]
  have hl := lv_entry ([.ref (a_m 0), .int x1]) (n := 2) (Nat.le_of_ble_eq_true rfl)
  generalize (lg_sl ([.ref (a_m 0), .int x1]) ++ List.replicate (2 - (lg_sl ([.ref (a_m 0), .int x1])).length) Slot.unset).toArray = ls at hl ⊢
  have hl : lv_has ls 2 [(0, .ref (a_m 0)), (1, .int x1)] := hl
  clear hg
  unfold fX7_now at hd
  refine lv_iload_n hx hb dX7_now_0 rfl (lv_at hl 1 rfl) ?_
  refine rx_tab hx hb (0 : Int32) (0) rfl 44 dX7_now_1 (by decide) (by decide) rfl rfl hd (fun hd => ?_) (fun n_0 hd => ?_)
  · refine lv_aload_n hx hb dX7_now_44 rfl (lv_at hl 0 rfl) ?_
    refine rx_get hx hb hts fiX7_now_X7 hown hK hP 0 rfl rfl 0 (Nat.le_of_ble_eq_true rfl) fl_7 rfl rfl dX7_now_45 ?_
    refine lv_iconst (v := 1) hx hb dX7_now_48 ki_1 ?_
    refine lv_iload_n hx hb dX7_now_49 rfl (lv_at hl 1 rfl) ?_
    refine lv_iadd hx hb dX7_now_50 ?_
    refine rx_iald hx hb hK hP 1 0 rfl rfl hd dX7_now_51 (fun v51 hd => ?_)
    exact rx_retUi (u := s_m) (w1 := (fun u : MS => (wM cI cJ a_m u))) hx hb hr hlocks hd hK hP hD hS dX7_now_52
  refine rx_tab hx hb (1 : Int32) (1) rfl 44 dX7_now_1 (by decide) (by decide) rfl rfl hd (fun hd => ?_) (fun n_1 hd => ?_)
  · refine lv_aload_n hx hb dX7_now_44 rfl (lv_at hl 0 rfl) ?_
    refine rx_get hx hb hts fiX7_now_X7 hown hK hP 0 rfl rfl 0 (Nat.le_of_ble_eq_true rfl) fl_7 rfl rfl dX7_now_45 ?_
    refine lv_iconst (v := 1) hx hb dX7_now_48 ki_1 ?_
    refine lv_iload_n hx hb dX7_now_49 rfl (lv_at hl 1 rfl) ?_
    refine lv_iadd hx hb dX7_now_50 ?_
    refine rx_iald hx hb hK hP 1 0 rfl rfl hd dX7_now_51 (fun v51 hd => ?_)
    exact rx_retUi (u := s_m) (w1 := (fun u : MS => (wM cI cJ a_m u))) hx hb hr hlocks hd hK hP hD hS dX7_now_52
  refine rx_tab hx hb (2 : Int32) (2) rfl 44 dX7_now_1 (by decide) (by decide) rfl rfl hd (fun hd => ?_) (fun n_2 hd => ?_)
  · refine lv_aload_n hx hb dX7_now_44 rfl (lv_at hl 0 rfl) ?_
    refine rx_get hx hb hts fiX7_now_X7 hown hK hP 0 rfl rfl 0 (Nat.le_of_ble_eq_true rfl) fl_7 rfl rfl dX7_now_45 ?_
    refine lv_iconst (v := 1) hx hb dX7_now_48 ki_1 ?_
    refine lv_iload_n hx hb dX7_now_49 rfl (lv_at hl 1 rfl) ?_
    refine lv_iadd hx hb dX7_now_50 ?_
    refine rx_iald hx hb hK hP 1 0 rfl rfl hd dX7_now_51 (fun v51 hd => ?_)
    exact rx_retUi (u := s_m) (w1 := (fun u : MS => (wM cI cJ a_m u))) hx hb hr hlocks hd hK hP hD hS dX7_now_52
  refine rx_tab hx hb (3 : Int32) (3) rfl 44 dX7_now_1 (by decide) (by decide) rfl rfl hd (fun hd => ?_) (fun n_3 hd => ?_)
  · refine lv_aload_n hx hb dX7_now_44 rfl (lv_at hl 0 rfl) ?_
    refine rx_get hx hb hts fiX7_now_X7 hown hK hP 0 rfl rfl 0 (Nat.le_of_ble_eq_true rfl) fl_7 rfl rfl dX7_now_45 ?_
    refine lv_iconst (v := 1) hx hb dX7_now_48 ki_1 ?_
    refine lv_iload_n hx hb dX7_now_49 rfl (lv_at hl 1 rfl) ?_
    refine lv_iadd hx hb dX7_now_50 ?_
    refine rx_iald hx hb hK hP 1 0 rfl rfl hd dX7_now_51 (fun v51 hd => ?_)
    exact rx_retUi (u := s_m) (w1 := (fun u : MS => (wM cI cJ a_m u))) hx hb hr hlocks hd hK hP hD hS dX7_now_52
  refine rx_tab hx hb (4 : Int32) (4) rfl 53 dX7_now_1 (by decide) (by decide) rfl rfl hd (fun hd => ?_) (fun n_4 hd => ?_)
  · refine lv_aload_n hx hb dX7_now_53 rfl (lv_at hl 0 rfl) ?_
    refine lv_iconst (v := 1) hx hb dX7_now_54 ki_1 ?_
    refine rx_roi hd (fun v hv => W.runV (As := [.int (1 : Int32)]) (rest := []) hcf (c_X7_together l dC dI cI cJ cQ fu a_m  s_m (1 : Int32) v hv) (cwV 1 hts gX7_now_X7_together rfl rfl rfl cd_X7_together ⟨(Nat.le_of_ble_eq_true rfl), (Nat.le_of_ble_eq_true rfl)⟩) (cq_R_V1 (q0 := 0) (ci := 6) hK hP rfl rfl) rfl rfl hl.1 rfl (lv_room (Nat.le_of_ble_eq_true rfl)) dX7_now_55 ⟨Nat.le_refl _, Nat.le_refl _⟩) (fun u55 hd => ?_)
    exact rx_retUi (u := s_m) (w1 := (fun u : MS => (wM cI cJ a_m u))) hx hb hr hlocks hd hK hP hD hS dX7_now_58
  refine rx_tab hx hb (5 : Int32) (5) rfl 59 dX7_now_1 (by decide) (by decide) rfl rfl hd (fun hd => ?_) (fun n_5 hd => ?_)
  · refine lv_aload_n hx hb dX7_now_59 rfl (lv_at hl 0 rfl) ?_
    refine lv_iconst (v := 2) hx hb dX7_now_60 ki_2 ?_
    refine rx_roi hd (fun v hv => W.runV (As := [.int (2 : Int32)]) (rest := []) hcf (c_X7_together l dC dI cI cJ cQ fu a_m  s_m (2 : Int32) v hv) (cwV 1 hts gX7_now_X7_together rfl rfl rfl cd_X7_together ⟨(Nat.le_of_ble_eq_true rfl), (Nat.le_of_ble_eq_true rfl)⟩) (cq_R_V1 (q0 := 0) (ci := 6) hK hP rfl rfl) rfl rfl hl.1 rfl (lv_room (Nat.le_of_ble_eq_true rfl)) dX7_now_61 ⟨Nat.le_refl _, Nat.le_refl _⟩) (fun u61 hd => ?_)
    exact rx_retUi (u := s_m) (w1 := (fun u : MS => (wM cI cJ a_m u))) hx hb hr hlocks hd hK hP hD hS dX7_now_64
  refine rx_tab hx hb (6 : Int32) (6) rfl 65 dX7_now_1 (by decide) (by decide) rfl rfl hd (fun hd => ?_) (fun n_6 hd => ?_)
  · refine lv_aload_n hx hb dX7_now_65 rfl (lv_at hl 0 rfl) ?_
    refine lv_iconst (v := 0) hx hb dX7_now_66 ki_0 ?_
    refine rx_roi hd (fun v hv => W.runV (As := [.int (0 : Int32)]) (rest := []) hcf (c_X7_together l dC dI cI cJ cQ fu a_m  s_m (0 : Int32) v hv) (cwV 1 hts gX7_now_X7_together rfl rfl rfl cd_X7_together ⟨(Nat.le_of_ble_eq_true rfl), (Nat.le_of_ble_eq_true rfl)⟩) (cq_R_V1 (q0 := 0) (ci := 6) hK hP rfl rfl) rfl rfl hl.1 rfl (lv_room (Nat.le_of_ble_eq_true rfl)) dX7_now_67 ⟨Nat.le_refl _, Nat.le_refl _⟩) (fun u67 hd => ?_)
    exact rx_retUi (u := s_m) (w1 := (fun u : MS => (wM cI cJ a_m u))) hx hb hr hlocks hd hK hP hD hS dX7_now_70
  refine lv_tableOut (tgt := 71) hx hb dX7_now_1 (by omega) rfl ?_
  refine lv_aload_n hx hb dX7_now_71 rfl (lv_at hl 0 rfl) ?_
  refine lv_ldc hx hb hown kc_48 dX7_now_72 ?_
  refine rx_upi1 hd hD hS hA (fun v hv => va_runV (As := [.int (-1000000001 : Int32)]) (rest := []) hcf (c_X7_finds l dC dI cI cJ cQ fu a_m _  s_m (-1000000001 : Int32) v hv) (cwV 1 hts gX7_now_X7_finds rfl rfl rfl cd_X7_finds ⟨(Nat.le_of_ble_eq_true rfl), (Nat.le_of_ble_eq_true rfl)⟩) (cq_U_V1 (q0 := 0) (ci := 6) hK hP hD rfl rfl) rfl rfl hl.1 rfl (lv_room (Nat.le_of_ble_eq_true rfl)) dX7_now_74 ⟨Nat.le_refl _, Nat.le_refl _⟩) (fun u74 hd H locs hP hD hS => ?_)
  exact rx_retUi (u := u74.2) (w1 := (fun u : MS => (wM cI cJ a_m u))) hx hb hr hlocks hd hK hP hD hS dX7_now_77
