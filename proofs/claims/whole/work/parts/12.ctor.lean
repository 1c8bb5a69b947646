/-! a row's content matters in its range alone -/
theorem arrV_cg (cI : ClassId) (N : Nat) {f g : Nat → Value} (h : ∀ j, j < N → f j = g j) : arrV cI N f = arrV cI N g := by
  unfold arrV
  congr 1
  congr 1
  funext j
  exact h j.val j.isLt
def wn (q : Nat × va_E) : Nat × (Cell ⊕ (Nat × List Value)) := match q with
  | (a, .inl x) => (a, .inl (vp_cell x.1 x.2))
  | (a, .inr o) => (a, .inr o)
theorem wn_q (a : Nat) (c : ClassId) (n : Nat) {f g : Nat → Option Nat} (h : ∀ j, j < n → f j = g j) : wn (a, .inl (c, n, .inr (.inr (.inr (.inr f))))) = wn (a, .inl (c, n, .inr (.inr (.inr (.inr g))))) := by
  unfold wn
  dsimp only
  rw [vp_cell_q, vp_cell_q, arrV_cg c n (fun j hj => by rw [h j hj])]
theorem wn_i (a : Nat) (c : ClassId) (n : Nat) {f g : Nat → Int32} (h : ∀ j, j < n → f j = g j) : wn (a, .inl (c, n, .inl f)) = wn (a, .inl (c, n, .inl g)) := by
  unfold wn
  dsimp only
  rw [vp_cell_i, vp_cell_i, arrV_cg c n (fun j hj => by rw [h j hj])]
theorem wn_l (a : Nat) (c : ClassId) (n : Nat) {f g : Nat → Int64} (h : ∀ j, j < n → f j = g j) : wn (a, .inl (c, n, .inr (.inl f))) = wn (a, .inl (c, n, .inr (.inl g))) := by
  unfold wn
  dsimp only
  rw [vp_cell_l, vp_cell_l, arrV_cg c n (fun j hj => by rw [h j hj])]
theorem wn_at {D : va_G} {cl : List vw_C} {H : Heap} {q q' : Nat × va_E} (h : wn q = wn q') (hq : va_at D cl q H) : va_at D cl q' H := by
  obtain ⟨a, x | o⟩ := q <;> obtain ⟨a', x' | o'⟩ := q'
  · have h1 : a = a' := congrArg Prod.fst h
    have h2 : vp_cell x.1 x.2 = vp_cell x'.1 x'.2 := Sum.inl.inj (congrArg Prod.snd h)
    subst h1
    show H[a]? = some (vp_cell x'.1 x'.2)
    rw [← h2]
    exact hq
  · have h2 := congrArg Prod.snd h
    cases h2
  · have h2 := congrArg Prod.snd h
    cases h2
  · have h1 : a = a' := congrArg Prod.fst h
    have h2 : o = o' := Sum.inr.inj (congrArg Prod.snd h)
    subst h1; subst h2
    exact hq
theorem wn_get {ws ws' : va_W} (h : ws.map wn = ws'.map wn) {k : Nat} {q' : Nat × va_E} (hk : ws'[k]? = some q') : ∃ q, ws[k]? = some q ∧ wn q = wn q' := by
  have h1 : (ws.map wn)[k]? = some (wn q') := by rw [h, List.getElem?_map, hk]; rfl
  rw [List.getElem?_map] at h1
  cases hq : ws[k]? with
  | none => rw [hq] at h1; cases h1
  | some q => rw [hq] at h1; exact ⟨q, rfl, Option.some.inj h1⟩
theorem wn_fst {q q' : Nat × va_E} (h : wn q = wn q') : q.1 = q'.1 := by
  have h1 : (wn q).1 = (wn q').1 := by rw [h]
  obtain ⟨a, x | o⟩ := q <;> obtain ⟨a', x' | o'⟩ := q' <;> exact h1
theorem va_P.wn {D : va_G} {cl : List vw_C} {H : Heap} {ws ws' : va_W} (hP : va_P D cl ws H) (h : ws.map wn = ws'.map wn) : va_P D cl ws' H := by
  intro k q' hk
  obtain ⟨q, h1, h2⟩ := wn_get h hk
  exact wn_at h2 (hP k q h1)
theorem va_D.wn {A : Nat → Prop} {ws ws' : va_W} (hD : va_D A ws) (h : ws.map wn = ws'.map wn) : va_D A ws' := by
  refine ⟨fun i j p q hp hq e => ?_, fun k q hk => ?_⟩
  · obtain ⟨p1, g1, g2⟩ := wn_get h hp
    obtain ⟨q1, g3, g4⟩ := wn_get h hq
    exact hD.1 i j p1 q1 g1 g3 (by rw [wn_fst g2, wn_fst g4, e])
  · obtain ⟨q1, g3, g4⟩ := wn_get h hk
    rw [← wn_fst g4]
    exact hD.2 k q1 g3
/-! constructors: rows that make cells, contracts with the addresses as the state -/
def cq_C (D : va_G) (cl : List vw_C) (tys : List (ClassId × FieldType)) (wc : va_W) (sz : Nat) (EX : State → Prop) : State → Prop := fun U => cq_U D cl tys wc sz U ∧ EX U
def ex_ok (EX : State → Prop) : Prop := (∀ (s U : State), s.WarmedH U.vm → EX s → EX U) ∧ ∀ (U : State) (g : JFrame) (mk : MethodId) (a : Array Value), EX U → EX (U.calling g mk a)
theorem ex_T : ex_ok (fun _ => True) := ⟨fun _ _ _ _ => trivial, fun _ _ _ _ _ => trivial⟩
def ex_2 : State → Prop := fun U => va_Nw (.methodLinkNest RX2 9 yX5_init "BucketGift") U
theorem ex_2_ok : ex_ok ex_2 := ⟨fun _ _ hW h => va_Nw.warmM hW h, fun _ _ _ _ h => va_Nw.same rfl rfl h⟩
def ex_6 : State → Prop := fun U => va_Nw (.methodLinkNest RX6 15 yX1_init "BucketGift") U ∧ va_Nw (.methodLinkNest RX6 32 yX4_init "BucketGift") U ∧ va_Nw (.methodLinkNest RX6 39 yX2_init "BucketGift") U ∧ va_Nw (.methodLinkNest RX6 50 yX3_init "BucketGift") U ∧ va_AO "BucketGift$Sheet" U ∧ ex_2 U
theorem ex_6_ok : ex_ok ex_6 := ⟨fun _ _ hW h => ⟨va_Nw.warmM hW h.1, va_Nw.warmM hW h.2.1, va_Nw.warmM hW h.2.2.1, va_Nw.warmM hW h.2.2.2.1, va_AO.moved hW.alike h.2.2.2.2.1, ex_2_ok.1 _ _ hW h.2.2.2.2.2⟩, fun U g mk a h => ⟨va_Nw.same rfl rfl h.1, va_Nw.same rfl rfl h.2.1, va_Nw.same rfl rfl h.2.2.1, va_Nw.same rfl rfl h.2.2.2.1, va_AO.moved (Vm.Alike.refl U.vm) h.2.2.2.2.1, ex_2_ok.2 _ _ _ _ h.2.2.2.2.2⟩⟩
abbrev mC (l : Launch) (y : MethodName) (ws : List Cond) (rm : Room) (h0 : Nat) (D : va_G) (cl : List vw_C) (tys : List (ClassId × FieldType)) (e0 : va_E) (sz : Nat) (EX : State → Prop) {S : Type} (z : S → Nat) (w1 : S → va_W) (mc ms : Nat) : Prop := Met l y ws rm (va_Pc [.ref h0] (cq_C D cl tys [(h0, e0)] sz EX)) (va_Qv (fun u => z u = h0) (cq_V D cl tys (va_A [(h0, e0)] sz) w1) (va_A [(h0, e0)] sz)) mc ms (va_A [(h0, e0)] sz)
abbrev cRm (frames cells slots lw : Nat) : Room := { frames := frames, cells := cells, slots := slots, locals := lw }
section
variable {p : Program} {l : Launch} {e : Env} {R : Room} {s : State} {m : MethodId} {args : Array Value} {below : List Frame} {meth : Method} {c : Code} {H : Heap} {locs : List Loc} {cells slots : Nat} {Q : State → Prop}
variable {cc : ByteArray} {pc : Nat} {ls : Array Slot} {rest st0 : List Value} {D : va_G} {cl : List vw_C} {A : Nat → Prop} {a : Nat} {tys : List (ClassId × FieldType)} {ws wc : va_W} {H0 : Heap}
theorem rx_same {cA cB : ClassId} {ty : FieldType} {t0 : Nat} (hK : va_K D cl tys s) (ht : tys[t0]? = some (cB, ty)) (hK1 : va_K D cl (tys ++ [(cA, ty)]) s) : cA = cB := by
  have h1 := (hK.2 t0 _ ht).2
  have h2 := (hK1.2 tys.length (cA, ty) (by simp)).2
  cases ty with
  | object C =>
    obtain ⟨_, _, -, -, -, g1⟩ := h1
    obtain ⟨_, _, -, -, -, g2⟩ := h2
    exact Option.some.inj (g2.symm.trans g1)
  | _ => exact Option.some.inj (Eq.trans (Eq.symm h2) h1)
theorem rx_newi (hx : p.tables.exec = Jvm.exec) (hb : c.code = cc) (harr : (Cond.arrayClass .int).before args s = true) (hK : va_K D cl tys s) (hP : va_P D cl ws H) (hD : va_D A ws) (hS : va_S A H0 H locs) (hA : ∀ q, H0.size ≤ q → A q) (t0 : Nat) {cI : ClassId} (ht : tys[t0]? = some (cI, .int)) {n : Int32} (N' : Nat) (hn : ¬ n < 0) (hN : n.toNatClampNeg = N') (hbytes : N' * componentBytes .int ≤ 536870912) (hcells : cells + 1 ≤ R.cells) (hslots : slots + N' ≤ R.slots) (hdg : decode cc pc = .ok (.newarray .int, 2))
    (kk : ∀ (q : Nat) (H1 : Heap), va_P D cl (ws ++ [(q, .inl (cI, N', .inl (fun _ => 0)))]) H1 → va_D A (ws ++ [(q, .inl (cI, N', .inl (fun _ => 0)))]) → va_S A H0 H1 locs → W p l e R s m args below meth c H1 locs (cells + 1) (slots + N') Q (F0 m (pc + 2) ls (.ref q :: rest))) : W p l e R s m args below meth c H locs cells slots Q (F0 m pc ls (.int n :: rest)) := by
  refine va_newa (atype := .int) (ty := .int) (a0 := (N', .inl (fun _ => 0))) hx hb harr rfl hK hP hD hS hA (fun cA => rfl) hn hN hbytes hcells hslots hdg (fun q cA H1 hK1 hP1 hD1 hS1 => ?_)
  have e1 := rx_same hK ht hK1
  subst e1
  exact kk q H1 hP1 hD1 hS1
theorem rx_newl (hx : p.tables.exec = Jvm.exec) (hb : c.code = cc) (harr : (Cond.arrayClass .long).before args s = true) (hK : va_K D cl tys s) (hP : va_P D cl ws H) (hD : va_D A ws) (hS : va_S A H0 H locs) (hA : ∀ q, H0.size ≤ q → A q) (t0 : Nat) {cJ : ClassId} (ht : tys[t0]? = some (cJ, .long)) {n : Int32} (N' : Nat) (hn : ¬ n < 0) (hN : n.toNatClampNeg = N') (hbytes : N' * componentBytes .long ≤ 536870912) (hcells : cells + 1 ≤ R.cells) (hslots : slots + N' ≤ R.slots) (hdg : decode cc pc = .ok (.newarray .long, 2))
    (kk : ∀ (q : Nat) (H1 : Heap), va_P D cl (ws ++ [(q, .inl (cJ, N', .inr (.inl (fun _ => 0))))]) H1 → va_D A (ws ++ [(q, .inl (cJ, N', .inr (.inl (fun _ => 0))))]) → va_S A H0 H1 locs → W p l e R s m args below meth c H1 locs (cells + 1) (slots + N') Q (F0 m (pc + 2) ls (.ref q :: rest))) : W p l e R s m args below meth c H locs cells slots Q (F0 m pc ls (.int n :: rest)) := by
  refine va_newa (atype := .long) (ty := .long) (a0 := (N', .inr (.inl (fun _ => 0)))) hx hb harr rfl hK hP hD hS hA (fun cA => rfl) hn hN hbytes hcells hslots hdg (fun q cA H1 hK1 hP1 hD1 hS1 => ?_)
  have e1 := rx_same hK ht hK1
  subst e1
  exact kk q H1 hP1 hD1 hS1
theorem rx_newQ (hx : p.tables.exec = Jvm.exec) (hb : c.code = cc) {own C : String} {index : Nat} (hown : s.vm.findClass own = some m.cls) (hclink : (Cond.classLink own index C).before args s = true) (hover : va_AO C s) (hK : va_K D cl tys s) (hP : va_P D cl ws H) (hD : va_D A ws) (hS : va_S A H0 H locs) (hA : ∀ q, H0.size ≤ q → A q) (t0 : Nat) {cQ : ClassId} (ht : tys[t0]? = some (cQ, .object C)) {n : Int32} (N' : Nat) (hn : ¬ n < 0) (hN : n.toNatClampNeg = N') (hbytes : N' * 4 ≤ 536870912) (hcells : cells + 1 ≤ R.cells) (hslots : slots + N' ≤ R.slots) (hdg : decode cc pc = .ok (.anewarray index, 3))
    (kk : ∀ (q : Nat) (H1 : Heap), va_P D cl (ws ++ [(q, .inl (cQ, N', .inr (.inr (.inr (.inr (fun _ => none))))))]) H1 → va_D A (ws ++ [(q, .inl (cQ, N', .inr (.inr (.inr (.inr (fun _ => none))))))]) → va_S A H0 H1 locs → W p l e R s m args below meth c H1 locs (cells + 1) (slots + N') Q (F0 m (pc + 3) ls (.ref q :: rest))) : W p l e R s m args below meth c H locs cells slots Q (F0 m pc ls (.int n :: rest)) := by
  refine va_newq hx hb hown hclink hover hK hP hD hS hA hn hN hbytes hcells hslots hdg (fun q cA H1 hK1 hP1 hD1 hS1 => ?_)
  have e1 := rx_same hK ht hK1
  subst e1
  exact kk q H1 hP1 hD1 hS1
theorem rx_putF (ws' : va_W) (hx : p.tables.exec = Jvm.exec) (hb : c.code = cc) {own ref C : String} {T : u_T} {N ci index : Nat} {Ts : List Cond} (hts : ∀ w ∈ Ts, w.before args s = true) (hin : ∀ w ∈ u_ws C T N, w ∈ Ts) (ty0 : Nat → FieldType) (hty : ∀ k, k < N → parseFieldDescriptor (T k).2.2.1 = some (ty0 k)) (hnm : ∀ a, a < N → ∀ b, b < N → a ≠ b → (T a).2.1 ≠ (T b).2.1) (hown : s.vm.findClass own = some m.cls) (hK : va_K D cl tys s) (hP : va_P D cl ws H) (hD : va_D A ws) (hS0 : va_S A H0 H locs) (q0 : Nat) {fs : List Value} (he : ws[q0]? = some (a, .inr (ci, fs))) (hc : cl[ci]? = some (C, T, N)) (k : Nat) (hk : k < N) (hlink : (Cond.fieldLink own index ref (T k).2.1 (T k).2.2.1).before args s = true) (hsame : (T k).1 = ref) (hfin : (T k).2.2.2 = true) (hin2 : meth.name = "<init>") (hdecl : (T k).1 = own) {v : Value} (hn : narrow (ty0 k) v = v) (hfit : fits (ty0 k) v = true) (hl : k < fs.length) (hset : ws.set q0 (a, .inr (ci, fs.set k v)) = ws')
    (hdg : decode cc pc = .ok (.putfield index, 3)) (kk : ∀ (H1 : Heap) (locs1 : List Loc), va_P D cl ws' H1 → va_D A ws' → va_S A H0 H1 locs1 → W p l e R s m args below meth c H1 locs1 cells slots Q (F0 m (pc + 3) ls rest)) : W p l e R s m args below meth c H locs cells slots Q (F0 m pc ls (v :: .ref a :: rest)) := by
  subst hset; subst hsame
  exact va_putF hx hb hts hin ty0 hty hnm hown hK hP hD hS0 q0 he hc k hk hlink (fun _ h => h) hfin hin2 hdecl (hty k hk) hn hfit hl hdg kk
/-- a store in range, the world named -/
theorem rx_ias0 (ws' : va_W) (hx : p.tables.exec = Jvm.exec) (hb : c.code = cc) (hK : va_K D cl tys s) (hP : va_P D cl ws H) (hD : va_D A ws) (hS : va_S A H0 H locs) (q0 t0 : Nat) {cA : ClassId} {n : Nat} {f : Nat → Int32} (ha : ws[q0]? = some (a, .inl (cA, n, .inl f))) (ht : tys[t0]? = some (cA, .int)) {i : Int32} {x : Int32} (hin : ¬ (i < 0 ∨ n ≤ i.toNatClampNeg)) (hset : ws.set q0 (a, .inl (cA, n, .inl (upd f i.toNatClampNeg x))) = ws') (hdg : decode cc pc = .ok (.iastore, 1))
    (kk : ∀ (H1 : Heap) (locs1 : List Loc), va_P D cl ws' H1 → va_D A ws' → va_S A H0 H1 locs1 → W p l e R s m args below meth c H1 locs1 cells slots Q (F0 m (pc + 1) ls rest)) : W p l e R s m args below meth c H locs cells slots Q (F0 m pc ls (.int x :: .int i :: .ref a :: rest)) := by
  subst hset
  exact va_iast hx hb hK hP hD hS q0 t0 ha ht hin hdg kk
theorem rx_aas0 (ws' : va_W) (hx : p.tables.exec = Jvm.exec) (hb : c.code = cc) (hK : va_K D cl tys s) (hP : va_P D cl ws H) (hD : va_D A ws) (hS : va_S A H0 H locs) (q0 t0 qk ci : Nat) {cA : ClassId} {r : vw_C} {n v : Nat} {vs : List Value} {f : Nat → Option Nat} (ha : ws[q0]? = some (a, .inl (cA, n, .inr (.inr (.inr (.inr f)))))) (ht : tys[t0]? = some (cA, .object r.1)) (hv : ws[qk]? = some (v, .inr (ci, vs))) (hc : cl[ci]? = some r) {i : Int32} (hin : ¬ (i < 0 ∨ n ≤ i.toNatClampNeg)) (hset : ws.set q0 (a, .inl (cA, n, .inr (.inr (.inr (.inr (va_up f i.toNatClampNeg (some v))))))) = ws') (hdg : decode cc pc = .ok (.aastore, 1))
    (kk : ∀ (H1 : Heap) (locs1 : List Loc), va_P D cl ws' H1 → va_D A ws' → va_S A H0 H1 locs1 → W p l e R s m args below meth c H1 locs1 cells slots Q (F0 m (pc + 1) ls rest)) : W p l e R s m args below meth c H locs cells slots Q (F0 m pc ls (.ref v :: .int i :: .ref a :: rest)) := by
  subst hset
  exact va_astq hx hb hK hP hD hS q0 t0 qk ci ha ht hv hc hin hdg kk
/-- what was there, and what the constructor made of its new object, which lay last -/
theorem cq_new {S : Type} {q : Nat} {eq : va_E} {wr : va_W} {w1 : S → va_W} {H1 : Heap} {t : State} {u : S} (hP : va_P D cl (wr ++ [(q, eq)]) H) (hD : va_D A (wr ++ [(q, eq)])) (hS : va_S A H0 H locs) (hA : ∀ q, H0.size ≤ q → A q) (ht : t.heap = H1) (hk : ∀ x : Nat, x < H.size → ¬ va_A [(q, eq)] H.size x → H1[x]? = H[x]?) (hB : cq_V D cl tys (va_A [(q, eq)] H.size) w1 u t) : va_P D cl (wr ++ w1 u) H1 ∧ va_D A (wr ++ w1 u) := by
  obtain ⟨hP1, -, hD1⟩ := hB
  rw [ht] at hP1
  have hwr : ∀ (k : Nat) (x : Nat × va_E), wr[k]? = some x → (wr ++ [(q, eq)])[k]? = some x := fun k x hx => by
    rw [List.getElem?_append_left (List.getElem?_eq_some_iff.mp hx).1]; exact hx
  have hlast : (wr ++ [(q, eq)])[wr.length]? = some (q, eq) := by simp
  have hlt : ∀ (k : Nat) (x : Nat × va_E), wr[k]? = some x → x.1 < H.size := fun k x hx => (hP k x (hwr k x hx)).lt
  have hout : ∀ (k : Nat) (x : Nat × va_E), wr[k]? = some x → ¬ va_A [(q, eq)] H.size x.1 := by
    intro k x hx h
    rcases h with ⟨j, e2, h⟩ | h
    · have hj : j = 0 := by
        have := (List.getElem?_eq_some_iff.mp h).1
        simpa using this
      subst hj
      have hq : (x.1, e2) = (q, eq) := by simpa using h.symm
      have hq1 : x.1 = q := congrArg Prod.fst hq
      have := hD.1 k wr.length x (q, eq) (hwr k x hx) hlast hq1
      have h9 := (List.getElem?_eq_some_iff.mp hx).1
      omega
    · exact absurd h (Nat.not_le.mpr (hlt k x hx))
  refine ⟨va_P.app (fun k x hx => (hP k x (hwr k x hx)).kept (hk x.1 (hlt k x hx) (hout k x hx))) hP1, va_D.app ⟨fun i j x y hx hy hxy => hD.1 i j x y (hwr i x hx) (hwr j y hy) hxy, fun k x hx => hD.2 k x (hwr k x hx)⟩ (hD1.weaken (fun k x _ h => ?_)) (fun i j x y hx hy hxy => ?_)⟩
  · rcases h with ⟨j, e2, h⟩ | h
    · have hj : j = 0 := by
        have := (List.getElem?_eq_some_iff.mp h).1
        simpa using this
      subst hj
      have hq : (x.1, e2) = (q, eq) := by simpa using h.symm
      have hq1 : x.1 = q := congrArg Prod.fst hq
      rw [hq1]
      exact hD.2 wr.length _ hlast
    · exact hA _ (Nat.le_trans hS.1 h)
  · exact hout i x hx (by rw [hxy]; exact hD1.2 j y hy)
theorem rx_ctor {S : Type} {z : S → Nat} {q : Nat} {eq : va_E} {wr : va_W} {w1 : S → va_W} {av : Array Value} {mc ms : Nat} (hP : va_P D cl (wr ++ [(q, eq)]) H) (hD : va_D A (wr ++ [(q, eq)])) (hS : va_S A H0 H locs) (hA : ∀ q, H0.size ≤ q → A q)
    (hr : va_Run p l e R s m args below meth c H locs cells slots mc ms (F0 m pc ls st0) rest (va_Qv (fun u => z u = q) (cq_V D cl tys (va_A [(q, eq)] H.size) w1) (va_A [(q, eq)] H.size) av) (va_A [(q, eq)] H.size))
    (kk : ∀ (u : S), z u = q → ∀ (H1 : Heap) (locs1 : List Loc), va_P D cl (wr ++ w1 u) H1 → va_D A (wr ++ w1 u) → va_S A H0 H1 locs1 → W p l e R s m args below meth c H1 locs1 (cells + mc) (slots + ms) Q (F0 m (pc + 3) ls rest)) : W p l e R s m args below meth c H locs cells slots Q (F0 m pc ls st0) := by
  have hF : ∀ x, va_A [(q, eq)] H.size x → A x := by
    intro x h
    rcases h with ⟨j, e2, h⟩ | h
    · have hj : j = 0 := by
        have := (List.getElem?_eq_some_iff.mp h).1
        simpa using this
      subst hj
      have hq : (x, e2) = (q, eq) := by simpa using h.symm
      have hq1 : x = q := congrArg Prod.fst hq
      rw [hq1]
      exact hD.2 wr.length (q, eq) (by simp)
    · exact hA _ (Nat.le_trans hS.1 h)
  refine va_callv hr hS (fun q _ h => hF q h) hF (fun u t H1 locs1 ht hvm hw hB hz1 hk1 hS1 => ?_)
  obtain ⟨g1, g2⟩ := cq_new hP hD hS hA ht hk1 hB
  exact kk u hw H1 locs1 g1 g2 hS1
theorem cq_C_pre {q : Nat} {eq : va_E} {wr : va_W} {EX : State → Prop} (hE : ex_ok EX) (hX : EX s) (hK : va_K D cl tys s) (hP : va_P D cl (wr ++ [(q, eq)]) H) : PreS s H (va_Pc [.ref q] (cq_C D cl tys [(q, eq)] H.size EX)) [.ref q] := by
  refine ⟨fun a U g mk h => ⟨h.1, ⟨h.2.1.1, h.2.1.2.1, va_K.moved (u := U) (U := U.calling g mk a) (Vm.Alike.refl U.vm) h.2.1.2.2.1, h.2.1.2.2.2⟩, hE.2 U g mk a h.2.2⟩, fun U hU hW => ⟨rfl, ⟨by rw [hU], by rw [hU]; exact fun k x hx => hP (wr.length + k) x (by rw [List.getElem?_append_right (Nat.le_add_right _ _), Nat.add_sub_cancel_left]; exact hx), va_K.moved hW.alike hK, ⟨fun i j x y hx hy _ => ?_, fun _ _ _ => trivial⟩⟩, hE.1 s U hW hX⟩⟩
  have h1 := (List.getElem?_eq_some_iff.mp hx).1
  have h2 := (List.getElem?_eq_some_iff.mp hy).1
  simp at h1 h2
  omega
theorem rx_retC {S : Type} {z : S → Nat} {u : S} {q0 : Nat} {w1 : S → va_W} (hx : p.tables.exec = Jvm.exec) (hb : c.code = cc) (hr : meth.sig.returnType = none) (hlocks : meth.locks = false) (hu : z u = q0) (hK : va_K D cl tys s) (hP : va_P D cl (w1 u) H) (hD : va_D A (w1 u)) (hS : va_S A s.heap H locs) (hdg : decode cc pc = .ok (.return_, 1)) : W p l e R s m args below meth c H locs cells slots (MQ below (va_Qv (fun u => z u = q0) (cq_V D cl tys A w1) A) args s cells slots A) (F0 m pc ls []) :=
  W.vret hx hb hr (fun t ht hW => ⟨⟨u, rfl, hu, by rw [ht]; exact hP, va_K.moved hW.alike hK, hD⟩, hS.F ht⟩) hS.2.2 hdg hlocks
end
