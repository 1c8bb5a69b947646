theorem fiX2_init_X2 : ∀ w ∈ wsX20, w ∈ wsX2_init := mem_r _ [26] rfl
theorem fiX2_init_X5 : ∀ w ∈ wsX50, w ∈ wsX2_init := mem_r _ [19, 20, 21, 22, 23, 24, 25] rfl
theorem cdI_X2_init : yX2_init.cls ≠ "java/lang/invoke/MethodHandle" ∧ yX2_init.cls ≠ "java/lang/invoke/VarHandle" ∧ (parseMethodDescriptor yX2_init.desc).map (fun d => d.parameters.length) = some 0 := by decide +kernel
set_option maxHeartbeats 8000000 in
set_option maxRecDepth 100000 in
theorem c_X2_init (l : Launch) (dC : Nat → ClassId) (dI : Nat → Nat → Nat) (cI cJ cQ : ClassId) (h0 sz : Nat) : mC l yX2_init wsX2_init (cRm 2 6 611 40) h0 (dC, dI) vwCl (gty cI cJ cQ) (.inr (1, [.null])) sz ex_2 (fun u : (Nat → Nat) × (Nat → Nat) => u.1 0) (fun u : (Nat → Nat) × (Nat → Nat) => wTX u.1 u.2 ++ wTK cI cJ u.2 TK0) 6 611 := by
  refine Met.ofW (cc := cX2_init) (maxL := 1) (ret := none) (by decide) rfl ?_
  intro p e s m args below meth c s₁ B hml hv
  obtain ⟨hav, ⟨hsz, hP, hK, hD0⟩, hE⟩ := hv
  subst hsz
  have hD := hD0.self (sz := s.heap.size)
  generalize hAe : va_A [(h0, .inr (1, [.null]))] s.heap.size = A at hD ⊢
  have hA : ∀ q : Nat, s.heap.size ≤ q → A q := fun q h => by rw [← hAe]; exact Or.inr h
  have hS : va_S A s.heap s.heap [] := va_S.rf
  have hx := B.exec
  have hb := B.bytes
  have hr := B.returns
  have hts := atoms_spec (ws := wsX2_init) B.pre
  have hown : s.vm.findClass RX2 = some m.cls := findClass_of_methodNamed B.named
  have hlocks := B.notSynchronized
  have hin : meth.name = "<init>" := (name_of_methodNamed B.named B.method).1
  have hcf : CallFix p m c cX2_init 1 s args wsX2_init RX2 := ⟨hx, hb, hml, hown, hts⟩
  have fl_10 := hts (.fieldLink RX2 10 "BucketGift$ParishText" "tokens" "LBucketGift$Tokens;") (List.mem_of_getElem? (i := 7) rfl)
  have hg : entryFrame m args 1 = entryFrame m ([.ref h0] : List Value).toArray 1 := by rw [hav]
  rw [hg, lg_entry_eq]
  have hl := lv_entry ([.ref h0]) (n := 1) (Nat.le_of_ble_eq_true rfl)
  generalize (lg_sl ([.ref h0]) ++ List.replicate (1 - (lg_sl ([.ref h0])).length) Slot.unset).toArray = ls at hl ⊢
  have hl : lv_has ls 1 [(0, .ref h0)] := hl
  clear hg
  refine lv_aload_n hx hb dX2_init_0 rfl (lv_at hl 0 rfl) ?_
  refine W.objInit hx hb hown (hts (.methodLink RX2 1 objectInit) (List.mem_of_getElem? (i := 1) rfl)) (hts (.instanceMethod objectInit) (List.mem_of_getElem? (i := 2) rfl)) (hts (.code objectInit ⟨#[0xb1]⟩ 1 none) (List.mem_of_getElem? (i := 3) rfl)) rfl (by rw [hml]; exact hl.1) rfl dX2_init_1 (Nat.le_of_ble_eq_true rfl) (Nat.le_of_ble_eq_true rfl) ?_
  refine W.eq (g2 := F0 m 4 ls []) rfl ?_
  refine lv_aload_n hx hb dX2_init_4 rfl (lv_at hl 0 rfl) ?_
  refine va_new (ci := 4) (fs := [.null, .null, .null, .null, .null, .int 0, .int 0]) (C := RX5) (T := TX5) (N := 7) hx hb hts fiX2_init_X5 tyX5 tyX5_ok hown (hts (.classLink RX2 7 RX5) (List.mem_of_getElem? (i := 4) rfl)) (hts (.instantiable RX5 7) (List.mem_of_getElem? (i := 5) rfl)) (hts (.initialized RX5) (List.mem_of_getElem? (i := 6) rfl)) hK hP hD hS hA rfl (fun j hj => by rcases (show j = 0 ∨ j = 1 ∨ j = 2 ∨ j = 3 ∨ j = 4 ∨ j = 5 ∨ j = 6 by omega) with rfl | rfl | rfl | rfl | rfl | rfl | rfl <;> rfl) (Nat.le_of_ble_eq_true rfl) (Nat.le_of_ble_eq_true rfl) dX2_init_5 (fun q5 H hP hD hS => ?_)
  refine W.widen (k := 1) (n := 7) (Nat.le_of_ble_eq_true rfl) (Nat.le_of_ble_eq_true rfl) ?_
  refine lv_dup hx hb dX2_init_8 rfl ?_
  refine rx_ctor (wr := [(h0, .inr (1, [.null]))]) hP hD hS hA (va_runIN (As := []) (rest := [.ref q5, .ref h0]) hcf (c_X5_init l dC dI cI cJ cQ q5 H.size) ⟨va_cnB 0 hts gX2_init_X5_init_n9 rfl rfl rfl hE (hts (.initialized RX5) (List.mem_of_getElem? (i := 6) rfl)) cdI_X5_init ⟨(Nat.le_of_ble_eq_true rfl), (Nat.le_of_ble_eq_true rfl)⟩, rfl, (hts (.instanceMethod yX5_init) (List.mem_of_getElem? (i := 8) rfl))⟩ (cq_C_pre (wr := [(h0, .inr (1, [.null]))]) ex_T trivial hK hP) rfl rfl hl.1 rfl (lv_room (Nat.le_of_ble_eq_true rfl)) dX2_init_9 ⟨(Nat.le_of_ble_eq_true rfl), (Nat.le_of_ble_eq_true rfl)⟩) (fun u9 hu9 H locs hP2 hD2 hS2 => ?_)
  refine W.widen (k := 6) (n := 611) (Nat.le_of_ble_eq_true rfl) (Nat.le_of_ble_eq_true rfl) ?_
  clear hP hD hS
  subst hu9
  have hP := hP2
  have hD := hD2
  have hS := hS2
  clear hP2 hD2 hS2
  have hP : va_P (dC, dI) vwCl ([(h0, .inr (1, [.null]))] ++ (wTK cI cJ u9 TK0)) H := hP
  have hD : va_D A ([(h0, .inr (1, [.null]))] ++ (wTK cI cJ u9 TK0)) := hD
  refine rx_putF ([(h0, .inr (1, [.ref (u9 0)]))] ++ (wTK cI cJ u9 TK0)) hx hb hts fiX2_init_X2 tyX2 tyX2_ok nmX2 hown hK hP hD hS 0 rfl rfl 0 (Nat.le_of_ble_eq_true rfl) fl_10 rfl rfl hin rfl rfl rfl (Nat.le_of_ble_eq_true rfl) rfl dX2_init_12 (fun H locs hP hD hS => ?_)
  have hP : va_P (dC, dI) vwCl ((fun u : (Nat → Nat) × (Nat → Nat) => wTX u.1 u.2 ++ wTK cI cJ u.2 TK0) ((fun _ => h0), u9)) H := hP.sub [0, 1, 2, 3, 4, 5, 6] rfl
  have hD : va_D A ((fun u : (Nat → Nat) × (Nat → Nat) => wTX u.1 u.2 ++ wTK cI cJ u.2 TK0) ((fun _ => h0), u9)) := hD.sub [0, 1, 2, 3, 4, 5, 6] rfl rfl
  exact rx_retC (z := (fun u : (Nat → Nat) × (Nat → Nat) => u.1 0)) (u := ((fun _ => h0), u9)) (w1 := (fun u : (Nat → Nat) × (Nat → Nat) => wTX u.1 u.2 ++ wTK cI cJ u.2 TK0)) hx hb hr hlocks rfl hK hP hD hS dX2_init_15
