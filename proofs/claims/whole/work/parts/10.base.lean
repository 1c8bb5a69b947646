/-! The words of a method's meaning: a number read from a row in range, a call, a name, a loop with fuel; 'none' where the machine would not go on. -/
def g_in {ρ : Type} (i : Int32) (n : Nat) (k : Option ρ) : Option ρ := if i < 0 ∨ n ≤ i.toNatClampNeg then none else k
def g_ald {ρ : Type} (f : Nat → Int32) (n : Nat) (i : Int32) (k : Int32 → Option ρ) : Option ρ := g_in i n (k (f i.toNatClampNeg))
def g_lld {ρ : Type} (f : Nat → Int64) (n : Nat) (i : Int32) (k : Int64 → Option ρ) : Option ρ := g_in i n (k (f i.toNatClampNeg))
def g_bnd {α ρ : Type} (x : Option α) (k : α → Option ρ) : Option ρ := x.bind k
def g_nm {α ρ : Type} (a : α) (k : α → Option ρ) : Option ρ := k a
def g_nz {ρ : Type} (y : Int32) (k : Option ρ) : Option ρ := if y = 0 then none else k
def g_z {ρ : Type} (x : Int32) (k : Option ρ) : Option ρ := if x = 0 ∨ x = 1 then k else none
def g_cpy {ρ : Type} (sp dp n : Int32) (n0 n1 : Nat) (k : Option ρ) : Option ρ := if ¬ sp < 0 ∧ ¬ dp < 0 ∧ ¬ n < 0 ∧ sp.toNatClampNeg + n.toNatClampNeg ≤ n0 ∧ dp.toNatClampNeg + n.toNatClampNeg ≤ n1 then k else none
def g_lp {F : Type} (bot : F) (B : F → F) : Nat → F
  | 0 => bot
  | n + 1 => B (g_lp bot B n)
theorem g_lp_s {F : Type} (bot : F) (B : F → F) (n : Nat) : g_lp bot B (n + 1) = B (g_lp bot B n) := rfl
theorem g_in_some {ρ : Type} {i : Int32} {n : Nat} {k : Option ρ} {r : ρ} (h : g_in i n k = some r) : vp_in i n ∧ k = some r := by
  unfold g_in at h
  by_cases hc : i < 0 ∨ n ≤ i.toNatClampNeg
  · rw [if_pos hc] at h; cases h
  · rw [if_neg hc] at h; exact ⟨hc, h⟩
theorem g_bnd_some {α ρ : Type} {x : Option α} {k : α → Option ρ} {r : ρ} (h : g_bnd x k = some r) : ∃ v, x = some v ∧ k v = some r := by
  cases x with
  | none => cases h
  | some v => exact ⟨v, rfl, h⟩
theorem g_nz_some {ρ : Type} {y : Int32} {k : Option ρ} {r : ρ} (h : g_nz y k = some r) : ¬ y = 0 ∧ k = some r := by
  unfold g_nz at h
  by_cases hc : y = 0
  · rw [if_pos hc] at h; cases h
  · rw [if_neg hc] at h; exact ⟨hc, h⟩
theorem g_z_some {ρ : Type} {x : Int32} {k : Option ρ} {r : ρ} (h : g_z x k = some r) : (x = 0 ∨ x = 1) ∧ k = some r := by
  unfold g_z at h
  by_cases hc : x = 0 ∨ x = 1
  · rw [if_pos hc] at h; exact ⟨hc, h⟩
  · rw [if_neg hc] at h; cases h
theorem g_z_nar {x : Int32} (h : x = 0 ∨ x = 1) : narrow .boolean (.int x) = .int x ∧ fits .boolean (.int x) = true := by
  rcases h with rfl | rfl <;> decide
theorem g_cpy_some {ρ : Type} {sp dp n : Int32} {n0 n1 : Nat} {k : Option ρ} {r : ρ} (h : g_cpy sp dp n n0 n1 k = some r) : (¬ sp < 0 ∧ ¬ dp < 0 ∧ ¬ n < 0 ∧ sp.toNatClampNeg + n.toNatClampNeg ≤ n0 ∧ dp.toNatClampNeg + n.toNatClampNeg ≤ n1) ∧ k = some r := by
  unfold g_cpy at h
  split at h
  · exact ⟨by assumption, h⟩
  · cases h
theorem g_setL {l1 l2 l1' : va_W} {n : Nat} {x : Nat × va_E} (hn : n < l1.length) (h : l1.set n x = l1') : (l1 ++ l2).set n x = l1' ++ l2 := by
  rw [List.set_append_left _ _ hn, h]
theorem g_setR {l1 l2 l2' : va_W} {n j : Nat} {x : Nat × va_E} (hn : n = l1.length + j) (h : l2.set j x = l2') : (l1 ++ l2).set n x = l1 ++ l2' := by
  subst hn
  rw [List.set_append_right _ _ (Nat.le_add_right _ _), Nat.add_sub_cancel_left, h]
/-! contracts: a method that reads alone, a method that changes its world -/
def cq_R (D : va_G) (cl : List vw_C) (tys : List (ClassId × FieldType)) (wc : va_W) : State → Prop := fun U => va_P D cl wc U.heap ∧ va_K D cl tys U
def cq_U (D : va_G) (cl : List vw_C) (tys : List (ClassId × FieldType)) (wc : va_W) (sz : Nat) : State → Prop := fun U => U.heap.size = sz ∧ va_P D cl wc U.heap ∧ va_K D cl tys U ∧ va_D (fun _ => True) wc
def cq_V {S : Type} (D : va_G) (cl : List vw_C) (tys : List (ClassId × FieldType)) (A : Nat → Prop) (w1 : S → va_W) : S → State → Prop := fun u t => va_P D cl (w1 u) t.heap ∧ va_K D cl tys t ∧ va_D A (w1 u)
/-- what a read-only method of an int (a long) answers -/
abbrev qRi (below : List Frame) (args : Array Value) (s : State) (r : Int32) : State → Prop := MQ below (vp_Si (fun v => v = r)) args s 0 0 (fun _ => False)
abbrev qRl (below : List Frame) (args : Array Value) (s : State) (r : Int64) : State → Prop := MQ below (vp_Sl (fun v => v = r)) args s 0 0 (fun _ => False)
abbrev qUi {S : Type} (below : List Frame) (args : Array Value) (s : State) (D : va_G) (cl : List vw_C) (tys : List (ClassId × FieldType)) (A : Nat → Prop) (w1 : S → va_W) (r : Int32 × S) : State → Prop := MQ below (va_Qi (fun a u => (a, u) = r) (cq_V D cl tys A w1) A) args s 0 0 A
abbrev qUl {S : Type} (below : List Frame) (args : Array Value) (s : State) (D : va_G) (cl : List vw_C) (tys : List (ClassId × FieldType)) (A : Nat → Prop) (w1 : S → va_W) (r : Int64 × S) : State → Prop := MQ below (va_Ql (fun a u => (a, u) = r) (cq_V D cl tys A w1) A) args s 0 0 A
abbrev qUv {S : Type} (below : List Frame) (args : Array Value) (s : State) (D : va_G) (cl : List vw_C) (tys : List (ClassId × FieldType)) (A : Nat → Prop) (w1 : S → va_W) (r : S) : State → Prop := MQ below (va_Qv (fun u => u = r) (cq_V D cl tys A w1) A) args s 0 0 A
abbrev mRi (l : Launch) (y : MethodName) (ws : List Cond) (rm : Room) (av : List Value) (P : State → Prop) (r : Int32) : Prop := Met l y ws rm (va_Pc av P) (vp_Si (fun v => v = r)) 0 0 (fun _ => False)
abbrev mRl (l : Launch) (y : MethodName) (ws : List Cond) (rm : Room) (av : List Value) (P : State → Prop) (r : Int64) : Prop := Met l y ws rm (va_Pc av P) (vp_Sl (fun v => v = r)) 0 0 (fun _ => False)
abbrev mUi {S : Type} (l : Launch) (y : MethodName) (ws : List Cond) (rm : Room) (av : List Value) (D : va_G) (cl : List vw_C) (tys : List (ClassId × FieldType)) (wc : va_W) (sz : Nat) (w1 : S → va_W) (r : Int32 × S) : Prop := Met l y ws rm (va_Pc av (cq_U D cl tys wc sz)) (va_Qi (fun a u => (a, u) = r) (cq_V D cl tys (va_A wc sz) w1) (va_A wc sz)) 0 0 (va_A wc sz)
abbrev mUl {S : Type} (l : Launch) (y : MethodName) (ws : List Cond) (rm : Room) (av : List Value) (D : va_G) (cl : List vw_C) (tys : List (ClassId × FieldType)) (wc : va_W) (sz : Nat) (w1 : S → va_W) (r : Int64 × S) : Prop := Met l y ws rm (va_Pc av (cq_U D cl tys wc sz)) (va_Ql (fun a u => (a, u) = r) (cq_V D cl tys (va_A wc sz) w1) (va_A wc sz)) 0 0 (va_A wc sz)
abbrev mUv {S : Type} (l : Launch) (y : MethodName) (ws : List Cond) (rm : Room) (av : List Value) (D : va_G) (cl : List vw_C) (tys : List (ClassId × FieldType)) (wc : va_W) (sz : Nat) (w1 : S → va_W) (r : S) : Prop := Met l y ws rm (va_Pc av (cq_U D cl tys wc sz)) (va_Qv (fun u => u = r) (cq_V D cl tys (va_A wc sz) w1) (va_A wc sz)) 0 0 (va_A wc sz)
abbrev gRm (frames lw : Nat) : Room := { frames := frames, cells := 0, slots := 0, locals := lw }
section
variable {p : Program} {l : Launch} {e : Env} {R : Room} {s : State} {m : MethodId} {args : Array Value} {below : List Frame} {meth : Method} {c : Code} {H : Heap} {locs : List Loc} {cells slots : Nat} {Q : State → Prop}
variable {cc : ByteArray} {pc : Nat} {ls : Array Slot} {rest st0 : List Value} {D : va_G} {cl : List vw_C} {A : Nat → Prop} {a : Nat} {tys : List (ClassId × FieldType)} {ws wc : va_W} {H0 : Heap}
/-- what a block of a method that changes its world says / of one that reads -/
def bk_U (p : Program) (l : Launch) (e : Env) (R : Room) (s : State) (m : MethodId) (args : Array Value) (below : List Frame) (meth : Method) (c : Code) (Q : State → Prop) (D : va_G) (cl : List vw_C) (A : Nat → Prop) (nL : Nat) (ws : va_W) (pc : Nat) (lv : List (Nat × Value)) (st : List Value) : Prop :=
  ∀ (H : Heap) (locs : List Loc) (ls : Array Slot), va_P D cl ws H → va_D A ws → va_S A s.heap H locs → lv_has ls nL lv → W p l e R s m args below meth c H locs 0 0 Q (F0 m pc ls st)
def bk_R (p : Program) (l : Launch) (e : Env) (R : Room) (s : State) (m : MethodId) (args : Array Value) (below : List Frame) (meth : Method) (c : Code) (Q : State → Prop) (nL : Nat) (pc : Nat) (lv : List (Nat × Value)) (st : List Value) : Prop :=
  ∀ (ls : Array Slot), lv_has ls nL lv → W p l e R s m args below meth c s.heap [] 0 0 Q (F0 m pc ls st)
theorem rx_iald {ρ : Type} {r : ρ} {k : Int32 → Option ρ} (hx : p.tables.exec = Jvm.exec) (hb : c.code = cc) (hK : va_K D cl tys s) (hP : va_P D cl ws H) (q0 t0 : Nat) {cA : ClassId} {n : Nat} {f : Nat → Int32} (ha : ws[q0]? = some (a, .inl (cA, n, .inl f))) (ht : tys[t0]? = some (cA, .int)) {i : Int32} (hd : g_ald f n i k = some r) (hdg : decode cc pc = .ok (.iaload, 1))
    (kk : ∀ v, k v = some r → W p l e R s m args below meth c H locs cells slots Q (F0 m (pc + 1) ls (.int v :: rest))) : W p l e R s m args below meth c H locs cells slots Q (F0 m pc ls (.int i :: .ref a :: rest)) :=
  va_iald hx hb hK hP q0 t0 ha ht (g_in_some hd).1 hdg (kk _ (g_in_some hd).2)
theorem rx_lald {ρ : Type} {r : ρ} {k : Int64 → Option ρ} (hx : p.tables.exec = Jvm.exec) (hb : c.code = cc) (hK : va_K D cl tys s) (hP : va_P D cl ws H) (q0 t0 : Nat) {cA : ClassId} {n : Nat} {f : Nat → Int64} (ha : ws[q0]? = some (a, .inl (cA, n, .inr (.inl f)))) (ht : tys[t0]? = some (cA, .long)) {i : Int32} (hd : g_lld f n i k = some r) (hdg : decode cc pc = .ok (.laload, 1))
    (kk : ∀ v, k v = some r → W p l e R s m args below meth c H locs cells slots Q (F0 m (pc + 1) ls (.long v :: rest))) : W p l e R s m args below meth c H locs cells slots Q (F0 m pc ls (.int i :: .ref a :: rest)) :=
  va_lald hx hb hK hP q0 t0 ha ht (g_in_some hd).1 hdg (kk _ (g_in_some hd).2)
theorem rx_iast {ρ : Type} {r : ρ} {k : Option ρ} (ws' : va_W) (hx : p.tables.exec = Jvm.exec) (hb : c.code = cc) (hK : va_K D cl tys s) (hP : va_P D cl ws H) (hD : va_D A ws) (hS : va_S A H0 H locs) (q0 t0 : Nat) {cA : ClassId} {n : Nat} {f : Nat → Int32} (ha : ws[q0]? = some (a, .inl (cA, n, .inl f))) (ht : tys[t0]? = some (cA, .int)) {i : Int32} {x : Int32} (hd : g_in i n k = some r) (hset : ws.set q0 (a, .inl (cA, n, .inl (upd f i.toNatClampNeg x))) = ws') (hdg : decode cc pc = .ok (.iastore, 1))
    (kk : k = some r → ∀ (H1 : Heap) (locs1 : List Loc), va_P D cl ws' H1 → va_D A ws' → va_S A H0 H1 locs1 → W p l e R s m args below meth c H1 locs1 cells slots Q (F0 m (pc + 1) ls rest)) : W p l e R s m args below meth c H locs cells slots Q (F0 m pc ls (.int x :: .int i :: .ref a :: rest)) := by
  subst hset
  exact va_iast hx hb hK hP hD hS q0 t0 ha ht (g_in_some hd).1 hdg (kk (g_in_some hd).2)
theorem rx_last {ρ : Type} {r : ρ} {k : Option ρ} (ws' : va_W) (hx : p.tables.exec = Jvm.exec) (hb : c.code = cc) (hK : va_K D cl tys s) (hP : va_P D cl ws H) (hD : va_D A ws) (hS : va_S A H0 H locs) (q0 t0 : Nat) {cA : ClassId} {n : Nat} {f : Nat → Int64} (ha : ws[q0]? = some (a, .inl (cA, n, .inr (.inl f)))) (ht : tys[t0]? = some (cA, .long)) {i : Int32} {x : Int64} (hd : g_in i n k = some r) (hset : ws.set q0 (a, .inl (cA, n, .inr (.inl (vp_updL f i.toNatClampNeg x)))) = ws') (hdg : decode cc pc = .ok (.lastore, 1))
    (kk : k = some r → ∀ (H1 : Heap) (locs1 : List Loc), va_P D cl ws' H1 → va_D A ws' → va_S A H0 H1 locs1 → W p l e R s m args below meth c H1 locs1 cells slots Q (F0 m (pc + 1) ls rest)) : W p l e R s m args below meth c H locs cells slots Q (F0 m pc ls (.long x :: .int i :: .ref a :: rest)) := by
  subst hset
  exact va_last hx hb hK hP hD hS q0 t0 ha ht (g_in_some hd).1 hdg (kk (g_in_some hd).2)
theorem rx_topi {ρ : Type} {r : ρ} {k : Int32 → Option ρ} {x : Int32} (hd : g_nm x k = some r) (kk : ∀ y : Int32, k y = some r → W p l e R s m args below meth c H locs cells slots Q (F0 m pc ls (.int y :: rest))) : W p l e R s m args below meth c H locs cells slots Q (F0 m pc ls (.int x :: rest)) := kk x hd
theorem rx_topl {ρ : Type} {r : ρ} {k : Int64 → Option ρ} {x : Int64} (hd : g_nm x k = some r) (kk : ∀ y : Int64, k y = some r → W p l e R s m args below meth c H locs cells slots Q (F0 m pc ls (.long y :: rest))) : W p l e R s m args below meth c H locs cells slots Q (F0 m pc ls (.long x :: rest)) := kk x hd
theorem rx_iinc {ρ : Type} {r : ρ} {k : Int32 → Option ρ} (hx : p.tables.exec = Jvm.exec) (hb : c.code = cc) {i nL j : Nat} {n : Int} {x z : Int32} {lv : List (Nat × Value)} (lv' : Int32 → List (Nat × Value)) (hdg : decode cc pc = .ok (.iinc i n, 3)) (h : lv_has ls nL lv) (hj : lv[j]? = some (i, .int x)) (hz : Int32.ofInt n = z) (hd : g_nm (x + z) k = some r) (hn : i < nL) (hl : ∀ v : Int32, (i, Value.int v) :: lv.filter (fun q => !(q.1 == i) && !(q.1 + 1 == i && q.2.category == 2)) = lv' v)
    (kk : ∀ (y : Int32), k y = some r → ∀ ls : Array Slot, lv_has ls nL (lv' y) → W p l e R s m args below meth c H locs cells slots Q (F0 m (pc + 3) ls rest)) : W p l e R s m args below meth c H locs cells slots Q (F0 m pc ls rest) := by
  subst hz
  exact lv_iinc (v := x + Int32.ofInt n) hx hb hdg h hj rfl hn (hl _) (kk _ hd)
theorem rx_idiv {ρ : Type} {r : ρ} {k : Option ρ} (hx : p.tables.exec = Jvm.exec) (hb : c.code = cc) {x y : Int32} (hdg : decode cc pc = .ok (.idiv, 1)) (hd : g_nz y k = some r)
    (kk : k = some r → W p l e R s m args below meth c H locs cells slots Q (F0 m (pc + 1) ls (.int (x / y) :: rest))) : W p l e R s m args below meth c H locs cells slots Q (F0 m pc ls (.int y :: .int x :: rest)) := lv_idiv hx hb hdg (g_nz_some hd).1 (kk (g_nz_some hd).2)
theorem rx_irem {ρ : Type} {r : ρ} {k : Option ρ} (hx : p.tables.exec = Jvm.exec) (hb : c.code = cc) {x y : Int32} (hdg : decode cc pc = .ok (.irem, 1)) (hd : g_nz y k = some r)
    (kk : k = some r → W p l e R s m args below meth c H locs cells slots Q (F0 m (pc + 1) ls (.int (x - x / y * y) :: rest))) : W p l e R s m args below meth c H locs cells slots Q (F0 m pc ls (.int y :: .int x :: rest)) := lv_irem hx hb hdg (g_nz_some hd).1 (kk (g_nz_some hd).2)
theorem rx_puti (ws' : va_W) (hx : p.tables.exec = Jvm.exec) (hb : c.code = cc) {own ref C : String} {T : u_T} {N ci index : Nat} {Ts : List Cond} (hts : ∀ w ∈ Ts, w.before args s = true) (hin : ∀ w ∈ u_ws C T N, w ∈ Ts) (ty0 : Nat → FieldType) (hty : ∀ k, k < N → parseFieldDescriptor (T k).2.2.1 = some (ty0 k)) (hnm : ∀ a, a < N → ∀ b, b < N → a ≠ b → (T a).2.1 ≠ (T b).2.1) (hown : s.vm.findClass own = some m.cls) (hK : va_K D cl tys s) (hP : va_P D cl ws H) (hD : va_D A ws) (hS0 : va_S A H0 H locs) (q0 : Nat) {fs : List Value} (he : ws[q0]? = some (a, .inr (ci, fs))) (hc : cl[ci]? = some (C, T, N)) (k : Nat) (hk : k < N) (hlink : (Cond.fieldLink own index ref (T k).2.1 (T k).2.2.1).before args s = true) (hsame : (T k).1 = ref) (hfin : (T k).2.2.2 = false) (ht : ty0 k = .int) {v : Int32} (hl : k < fs.length) (hset : ws.set q0 (a, .inr (ci, fs.set k (.int v))) = ws')
    (hdg : decode cc pc = .ok (.putfield index, 3)) (kk : ∀ (H1 : Heap) (locs1 : List Loc), va_P D cl ws' H1 → va_D A ws' → va_S A H0 H1 locs1 → W p l e R s m args below meth c H1 locs1 cells slots Q (F0 m (pc + 3) ls rest)) : W p l e R s m args below meth c H locs cells slots Q (F0 m pc ls (.int v :: .ref a :: rest)) := by
  subst hset; subst hsame
  exact va_put hx hb hts hin ty0 hty hnm hown hK hP hD hS0 q0 he hc k hk hlink (fun _ h => h) hfin (ty := .int) (by rw [hty k hk, ht]) rfl rfl hl hdg kk
theorem rx_putz {ρ : Type} {r : ρ} {kd : Option ρ} (ws' : va_W) (hx : p.tables.exec = Jvm.exec) (hb : c.code = cc) {own ref C : String} {T : u_T} {N ci index : Nat} {Ts : List Cond} (hts : ∀ w ∈ Ts, w.before args s = true) (hin : ∀ w ∈ u_ws C T N, w ∈ Ts) (ty0 : Nat → FieldType) (hty : ∀ k, k < N → parseFieldDescriptor (T k).2.2.1 = some (ty0 k)) (hnm : ∀ a, a < N → ∀ b, b < N → a ≠ b → (T a).2.1 ≠ (T b).2.1) (hown : s.vm.findClass own = some m.cls) (hK : va_K D cl tys s) (hP : va_P D cl ws H) (hD : va_D A ws) (hS0 : va_S A H0 H locs) (q0 : Nat) {fs : List Value} (he : ws[q0]? = some (a, .inr (ci, fs))) (hc : cl[ci]? = some (C, T, N)) (k : Nat) (hk : k < N) (hlink : (Cond.fieldLink own index ref (T k).2.1 (T k).2.2.1).before args s = true) (hsame : (T k).1 = ref) (hfin : (T k).2.2.2 = false) (ht : ty0 k = .boolean) {v : Int32} (hl : k < fs.length) (hd : g_z v kd = some r) (hset : ws.set q0 (a, .inr (ci, fs.set k (.int v))) = ws')
    (hdg : decode cc pc = .ok (.putfield index, 3)) (kk : kd = some r → ∀ (H1 : Heap) (locs1 : List Loc), va_P D cl ws' H1 → va_D A ws' → va_S A H0 H1 locs1 → W p l e R s m args below meth c H1 locs1 cells slots Q (F0 m (pc + 3) ls rest)) : W p l e R s m args below meth c H locs cells slots Q (F0 m pc ls (.int v :: .ref a :: rest)) := by
  subst hset; subst hsame
  have hz := g_z_nar (g_z_some hd).1
  exact va_put hx hb hts hin ty0 hty hnm hown hK hP hD hS0 q0 he hc k hk hlink (fun _ h => h) hfin (ty := .boolean) (by rw [hty k hk, ht]) hz.1 hz.2 hl hdg (kk (g_z_some hd).2)
theorem rx_get (hx : p.tables.exec = Jvm.exec) (hb : c.code = cc) {own ref C : String} {T : u_T} {N ci index : Nat} {Ts : List Cond} (hts : ∀ w ∈ Ts, w.before args s = true) (hin : ∀ w ∈ u_ws C T N, w ∈ Ts) (hown : s.vm.findClass own = some m.cls) (hK : va_K D cl tys s) (hP : va_P D cl ws H) (q0 : Nat) {fs : List Value} (he : ws[q0]? = some (a, .inr (ci, fs))) (hc : cl[ci]? = some (C, T, N)) (k : Nat) (hk : k < N) (hlink : (Cond.fieldLink own index ref (T k).2.1 (T k).2.2.1).before args s = true) (hsame : (T k).1 = ref) {v : Value} (hv : fs[k]? = some v) (hdg : decode cc pc = .ok (.getfield index, 3))
    (kk : W p l e R s m args below meth c H locs cells slots Q (F0 m (pc + 3) ls (v :: rest))) : W p l e R s m args below meth c H locs cells slots Q (F0 m pc ls (.ref a :: rest)) := by
  subst hsame
  exact va_get hx hb hts hin hown hK hP q0 he hc k hk hlink (fun _ h => h) hv hdg kk
theorem rx_tab {ρ : Type} {r : ρ} {k1 k2 : Option ρ} (hx : p.tables.exec = Jvm.exec) (hb : c.code = cc) {dflt lo hi : Int} {offs : Array Int} {len : Nat} {x : Int32} (key : Int32) (ki : Int) (hki : key.toInt = ki) {off : Int} (tgt : Nat) {ic : Decidable (x = key)} (hdg : decode cc pc = .ok (.tableswitch dflt lo hi offs, len)) (h1 : ¬ ki < lo) (h2 : ¬ hi < ki) (ho : offs[(ki - lo).toNat]? = some off) (ht : (pc : Int) + off = (tgt : Int)) (hd : @ite _ (x = key) ic k1 k2 = some r)
    (kt : k1 = some r → W p l e R s m args below meth c H locs cells slots Q (F0 m tgt ls rest)) (kf : ¬ x.toInt = ki → k2 = some r → W p l e R s m args below meth c H locs cells slots Q (F0 m pc ls (.int x :: rest))) : W p l e R s m args below meth c H locs cells slots Q (F0 m pc ls (.int x :: rest)) := by
  by_cases h : x = key
  · have hd1 := (if_pos h).symm.trans hd
    subst h; subst hki
    exact lv_tableIn hx hb hdg h1 h2 ho ht (kt hd1)
  · exact kf (fun z => h (Int32.toInt_inj.mp (z.trans hki.symm))) ((if_neg h).symm.trans hd)
theorem rx_look {ρ : Type} {r : ρ} {k1 k2 : Option ρ} (hx : p.tables.exec = Jvm.exec) (hb : c.code = cc) {dflt : Int} {ps : Array (Int × Int)} {len : Nat} {x : Int32} (key : Int32) (ki : Int) (hki : key.toInt = ki) {off : Int} (tgt : Nat) {ic : Decidable (x = key)} (hdg : decode cc pc = .ok (.lookupswitch dflt ps, len)) (hp : (ps.toList.zip (ps.toList.drop 1)).all (fun (a, next) => a.1 < next.1) = true) (ho : Op.lookupswitch.offset ps.toList dflt ki = off) (ht : (pc : Int) + off = (tgt : Int)) (hd : @ite _ (x = key) ic k1 k2 = some r)
    (kt : k1 = some r → W p l e R s m args below meth c H locs cells slots Q (F0 m tgt ls rest)) (kf : ¬ x.toInt = ki → k2 = some r → W p l e R s m args below meth c H locs cells slots Q (F0 m pc ls (.int x :: rest))) : W p l e R s m args below meth c H locs cells slots Q (F0 m pc ls (.int x :: rest)) := by
  by_cases h : x = key
  · have hd1 := (if_pos h).symm.trans hd
    subst h; subst hki
    exact lv_lookup hx hb hdg hp ho ht (kt hd1)
  · exact kf (fun z => h (Int32.toInt_inj.mp (z.trans hki.symm))) ((if_neg h).symm.trans hd)
theorem rx_copyi {ρ : Type} {r : ρ} {k : Option ρ} (ws' : va_W) (hx : p.tables.exec = Jvm.exec) (hb : c.code = cc) (hml : c.maxLocals = ls.size) {own : String} {index : Nat} (hown : s.vm.findClass own = some m.cls) (hlink : (Cond.methodLink own index arraycopyName).before args s = true) (hnat : (Cond.native arraycopyName).before args s = true) (hstat : (Cond.static arraycopyName).before args s = true) (hini : (Cond.initialized "java/lang/System").before args s = true)
    (hK : va_K D cl tys s) (hP : va_P D cl ws H) (hD : va_D A ws) (hS : va_S A H0 H locs) (q0 q1 t0 : Nat) {a0 : Nat} {c0 : ClassId} {n0 n1 : Nat} {f g : Nat → Int32} (ha0 : ws[q0]? = some (a0, .inl (c0, n0, .inl f))) (ha1 : ws[q1]? = some (a, .inl (c0, n1, .inl g))) (ht0 : tys[t0]? = some (c0, .int))
    {sp dp n : Int32} (hd : g_cpy sp dp n n0 n1 k = some r) (hset : ws.set q1 (a, .inl (c0, n1, .inl (va_cpy f g sp.toNatClampNeg dp.toNatClampNeg n.toNatClampNeg))) = ws')
    (hframes : 1 ≤ R.frames) (hlocals : (rest.map fun v => v.category).sum + (nativeFrameWords "java/lang/System" "arraycopy" 5 + 11) ≤ R.locals) (hdg : decode cc pc = .ok (.invokestatic index, 3))
    (kk : k = some r → ∀ (H1 : Heap) (locs1 : List Loc), va_P D cl ws' H1 → va_D A ws' → va_S A H0 H1 locs1 → W p l e R s m args below meth c H1 locs1 cells slots Q (F0 m (pc + 3) ls rest)) : W p l e R s m args below meth c H locs cells slots Q (F0 m pc ls (.int n :: .int dp :: .ref a :: .int sp :: .ref a0 :: rest)) := by
  subst hset
  obtain ⟨⟨h1, h2, h3, h4, h5⟩, h6⟩ := g_cpy_some hd
  exact va_copyi hx hb hml hown hlink hnat hstat hini hK hP hD hS q0 q1 t0 t0 ha0 ha1 ht0 ht0 rfl h1 h2 h3 h4 h5 (fun _ _ => rfl) hframes hlocals hdg (kk h6)
theorem rx_copyl {ρ : Type} {r : ρ} {k : Option ρ} (ws' : va_W) (hx : p.tables.exec = Jvm.exec) (hb : c.code = cc) (hml : c.maxLocals = ls.size) {own : String} {index : Nat} (hown : s.vm.findClass own = some m.cls) (hlink : (Cond.methodLink own index arraycopyName).before args s = true) (hnat : (Cond.native arraycopyName).before args s = true) (hstat : (Cond.static arraycopyName).before args s = true) (hini : (Cond.initialized "java/lang/System").before args s = true)
    (hK : va_K D cl tys s) (hP : va_P D cl ws H) (hD : va_D A ws) (hS : va_S A H0 H locs) (q0 q1 t0 : Nat) {a0 : Nat} {c0 : ClassId} {n0 n1 : Nat} {f g : Nat → Int64} (ha0 : ws[q0]? = some (a0, .inl (c0, n0, .inr (.inl f)))) (ha1 : ws[q1]? = some (a, .inl (c0, n1, .inr (.inl g)))) (ht0 : tys[t0]? = some (c0, .long))
    {sp dp n : Int32} (hd : g_cpy sp dp n n0 n1 k = some r) (hset : ws.set q1 (a, .inl (c0, n1, .inr (.inl (va_cpy f g sp.toNatClampNeg dp.toNatClampNeg n.toNatClampNeg)))) = ws')
    (hframes : 1 ≤ R.frames) (hlocals : (rest.map fun v => v.category).sum + (nativeFrameWords "java/lang/System" "arraycopy" 5 + 11) ≤ R.locals) (hdg : decode cc pc = .ok (.invokestatic index, 3))
    (kk : k = some r → ∀ (H1 : Heap) (locs1 : List Loc), va_P D cl ws' H1 → va_D A ws' → va_S A H0 H1 locs1 → W p l e R s m args below meth c H1 locs1 cells slots Q (F0 m (pc + 3) ls rest)) : W p l e R s m args below meth c H locs cells slots Q (F0 m pc ls (.int n :: .int dp :: .ref a :: .int sp :: .ref a0 :: rest)) := by
  subst hset
  obtain ⟨⟨h1, h2, h3, h4, h5⟩, h6⟩ := g_cpy_some hd
  exact va_copyl hx hb hml hown hlink hnat hstat hini hK hP hD hS q0 q1 t0 t0 ha0 ha1 ht0 ht0 rfl h1 h2 h3 h4 h5 (fun _ _ => rfl) hframes hlocals hdg (kk h6)
theorem rx_if_eq {ρ : Type} {r : ρ} {k1 k2 : Option ρ} (hx : p.tables.exec = Jvm.exec) (hb : c.code = cc) {x : Int32} {off : Int} (tgt : Nat) {ic : Decidable (x = 0)} (hdg : decode cc pc = .ok (.ifCond .eq off, 3)) (ht : (pc : Int) + off = (tgt : Int)) (hd : @ite _ (x = 0) ic k1 k2 = some r)
    (kt : k1 = some r → W p l e R s m args below meth c H locs cells slots Q (F0 m tgt ls rest)) (kf : k2 = some r → W p l e R s m args below meth c H locs cells slots Q (F0 m (pc + 3) ls rest)) : W p l e R s m args below meth c H locs cells slots Q (F0 m pc ls (.int x :: rest)) := lv_if_eq hx hb hdg ht (fun h => kt ((if_pos h).symm.trans hd)) (fun h => kf ((if_neg h).symm.trans hd))
theorem rx_icmp_eq {ρ : Type} {r : ρ} {k1 k2 : Option ρ} (hx : p.tables.exec = Jvm.exec) (hb : c.code = cc) {x y : Int32} {off : Int} (tgt : Nat) {ic : Decidable (x = y)} (hdg : decode cc pc = .ok (.if_icmp .eq off, 3)) (ht : (pc : Int) + off = (tgt : Int)) (hd : @ite _ (x = y) ic k1 k2 = some r)
    (kt : k1 = some r → W p l e R s m args below meth c H locs cells slots Q (F0 m tgt ls rest)) (kf : k2 = some r → W p l e R s m args below meth c H locs cells slots Q (F0 m (pc + 3) ls rest)) : W p l e R s m args below meth c H locs cells slots Q (F0 m pc ls (.int y :: .int x :: rest)) := lv_icmp_eq hx hb hdg ht (fun h => kt ((if_pos h).symm.trans hd)) (fun h => kf ((if_neg h).symm.trans hd))
theorem rx_if_lt {ρ : Type} {r : ρ} {k1 k2 : Option ρ} (hx : p.tables.exec = Jvm.exec) (hb : c.code = cc) {x : Int32} {off : Int} (tgt : Nat) {ic : Decidable (x < 0)} (hdg : decode cc pc = .ok (.ifCond .lt off, 3)) (ht : (pc : Int) + off = (tgt : Int)) (hd : @ite _ (x < 0) ic k1 k2 = some r)
    (kt : k1 = some r → W p l e R s m args below meth c H locs cells slots Q (F0 m tgt ls rest)) (kf : k2 = some r → W p l e R s m args below meth c H locs cells slots Q (F0 m (pc + 3) ls rest)) : W p l e R s m args below meth c H locs cells slots Q (F0 m pc ls (.int x :: rest)) := lv_if_lt hx hb hdg ht (fun h => kt ((if_pos h).symm.trans hd)) (fun h => kf ((if_neg h).symm.trans hd))
theorem rx_icmp_lt {ρ : Type} {r : ρ} {k1 k2 : Option ρ} (hx : p.tables.exec = Jvm.exec) (hb : c.code = cc) {x y : Int32} {off : Int} (tgt : Nat) {ic : Decidable (x < y)} (hdg : decode cc pc = .ok (.if_icmp .lt off, 3)) (ht : (pc : Int) + off = (tgt : Int)) (hd : @ite _ (x < y) ic k1 k2 = some r)
    (kt : k1 = some r → W p l e R s m args below meth c H locs cells slots Q (F0 m tgt ls rest)) (kf : k2 = some r → W p l e R s m args below meth c H locs cells slots Q (F0 m (pc + 3) ls rest)) : W p l e R s m args below meth c H locs cells slots Q (F0 m pc ls (.int y :: .int x :: rest)) := lv_icmp_lt hx hb hdg ht (fun h => kt ((if_pos h).symm.trans hd)) (fun h => kf ((if_neg h).symm.trans hd))
theorem rx_if_ge {ρ : Type} {r : ρ} {k1 k2 : Option ρ} (hx : p.tables.exec = Jvm.exec) (hb : c.code = cc) {x : Int32} {off : Int} (tgt : Nat) {ic : Decidable (0 ≤ x)} (hdg : decode cc pc = .ok (.ifCond .ge off, 3)) (ht : (pc : Int) + off = (tgt : Int)) (hd : @ite _ (0 ≤ x) ic k1 k2 = some r)
    (kt : k1 = some r → W p l e R s m args below meth c H locs cells slots Q (F0 m tgt ls rest)) (kf : k2 = some r → W p l e R s m args below meth c H locs cells slots Q (F0 m (pc + 3) ls rest)) : W p l e R s m args below meth c H locs cells slots Q (F0 m pc ls (.int x :: rest)) := lv_if_ge hx hb hdg ht (fun h => kt ((if_pos h).symm.trans hd)) (fun h => kf ((if_neg h).symm.trans hd))
theorem rx_icmp_ge {ρ : Type} {r : ρ} {k1 k2 : Option ρ} (hx : p.tables.exec = Jvm.exec) (hb : c.code = cc) {x y : Int32} {off : Int} (tgt : Nat) {ic : Decidable (y ≤ x)} (hdg : decode cc pc = .ok (.if_icmp .ge off, 3)) (ht : (pc : Int) + off = (tgt : Int)) (hd : @ite _ (y ≤ x) ic k1 k2 = some r)
    (kt : k1 = some r → W p l e R s m args below meth c H locs cells slots Q (F0 m tgt ls rest)) (kf : k2 = some r → W p l e R s m args below meth c H locs cells slots Q (F0 m (pc + 3) ls rest)) : W p l e R s m args below meth c H locs cells slots Q (F0 m pc ls (.int y :: .int x :: rest)) := lv_icmp_ge hx hb hdg ht (fun h => kt ((if_pos h).symm.trans hd)) (fun h => kf ((if_neg h).symm.trans hd))
theorem rx_if_gt {ρ : Type} {r : ρ} {k1 k2 : Option ρ} (hx : p.tables.exec = Jvm.exec) (hb : c.code = cc) {x : Int32} {off : Int} (tgt : Nat) {ic : Decidable (0 < x)} (hdg : decode cc pc = .ok (.ifCond .gt off, 3)) (ht : (pc : Int) + off = (tgt : Int)) (hd : @ite _ (0 < x) ic k1 k2 = some r)
    (kt : k1 = some r → W p l e R s m args below meth c H locs cells slots Q (F0 m tgt ls rest)) (kf : k2 = some r → W p l e R s m args below meth c H locs cells slots Q (F0 m (pc + 3) ls rest)) : W p l e R s m args below meth c H locs cells slots Q (F0 m pc ls (.int x :: rest)) := lv_if_gt hx hb hdg ht (fun h => kt ((if_pos h).symm.trans hd)) (fun h => kf ((if_neg h).symm.trans hd))
theorem rx_icmp_gt {ρ : Type} {r : ρ} {k1 k2 : Option ρ} (hx : p.tables.exec = Jvm.exec) (hb : c.code = cc) {x y : Int32} {off : Int} (tgt : Nat) {ic : Decidable (y < x)} (hdg : decode cc pc = .ok (.if_icmp .gt off, 3)) (ht : (pc : Int) + off = (tgt : Int)) (hd : @ite _ (y < x) ic k1 k2 = some r)
    (kt : k1 = some r → W p l e R s m args below meth c H locs cells slots Q (F0 m tgt ls rest)) (kf : k2 = some r → W p l e R s m args below meth c H locs cells slots Q (F0 m (pc + 3) ls rest)) : W p l e R s m args below meth c H locs cells slots Q (F0 m pc ls (.int y :: .int x :: rest)) := lv_icmp_gt hx hb hdg ht (fun h => kt ((if_pos h).symm.trans hd)) (fun h => kf ((if_neg h).symm.trans hd))
theorem rx_if_le {ρ : Type} {r : ρ} {k1 k2 : Option ρ} (hx : p.tables.exec = Jvm.exec) (hb : c.code = cc) {x : Int32} {off : Int} (tgt : Nat) {ic : Decidable (x ≤ 0)} (hdg : decode cc pc = .ok (.ifCond .le off, 3)) (ht : (pc : Int) + off = (tgt : Int)) (hd : @ite _ (x ≤ 0) ic k1 k2 = some r)
    (kt : k1 = some r → W p l e R s m args below meth c H locs cells slots Q (F0 m tgt ls rest)) (kf : k2 = some r → W p l e R s m args below meth c H locs cells slots Q (F0 m (pc + 3) ls rest)) : W p l e R s m args below meth c H locs cells slots Q (F0 m pc ls (.int x :: rest)) := lv_if_le hx hb hdg ht (fun h => kt ((if_pos h).symm.trans hd)) (fun h => kf ((if_neg h).symm.trans hd))
theorem rx_icmp_le {ρ : Type} {r : ρ} {k1 k2 : Option ρ} (hx : p.tables.exec = Jvm.exec) (hb : c.code = cc) {x y : Int32} {off : Int} (tgt : Nat) {ic : Decidable (x ≤ y)} (hdg : decode cc pc = .ok (.if_icmp .le off, 3)) (ht : (pc : Int) + off = (tgt : Int)) (hd : @ite _ (x ≤ y) ic k1 k2 = some r)
    (kt : k1 = some r → W p l e R s m args below meth c H locs cells slots Q (F0 m tgt ls rest)) (kf : k2 = some r → W p l e R s m args below meth c H locs cells slots Q (F0 m (pc + 3) ls rest)) : W p l e R s m args below meth c H locs cells slots Q (F0 m pc ls (.int y :: .int x :: rest)) := lv_icmp_le hx hb hdg ht (fun h => kt ((if_pos h).symm.trans hd)) (fun h => kf ((if_neg h).symm.trans hd))
theorem rx_if_ne {ρ : Type} {r : ρ} {k1 k2 : Option ρ} (hx : p.tables.exec = Jvm.exec) (hb : c.code = cc) {x : Int32} {off : Int} (tgt : Nat) {ic : Decidable (x = 0)} (hdg : decode cc pc = .ok (.ifCond .ne off, 3)) (ht : (pc : Int) + off = (tgt : Int)) (hd : @ite _ (x = 0) ic k1 k2 = some r)
    (kt : k2 = some r → W p l e R s m args below meth c H locs cells slots Q (F0 m tgt ls rest)) (kf : k1 = some r → W p l e R s m args below meth c H locs cells slots Q (F0 m (pc + 3) ls rest)) : W p l e R s m args below meth c H locs cells slots Q (F0 m pc ls (.int x :: rest)) := lv_if_ne hx hb hdg ht (fun h => kt ((if_neg h).symm.trans hd)) (fun h => kf ((if_pos h).symm.trans hd))
theorem rx_icmp_ne {ρ : Type} {r : ρ} {k1 k2 : Option ρ} (hx : p.tables.exec = Jvm.exec) (hb : c.code = cc) {x y : Int32} {off : Int} (tgt : Nat) {ic : Decidable (x = y)} (hdg : decode cc pc = .ok (.if_icmp .ne off, 3)) (ht : (pc : Int) + off = (tgt : Int)) (hd : @ite _ (x = y) ic k1 k2 = some r)
    (kt : k2 = some r → W p l e R s m args below meth c H locs cells slots Q (F0 m tgt ls rest)) (kf : k1 = some r → W p l e R s m args below meth c H locs cells slots Q (F0 m (pc + 3) ls rest)) : W p l e R s m args below meth c H locs cells slots Q (F0 m pc ls (.int y :: .int x :: rest)) := lv_icmp_ne hx hb hdg ht (fun h => kt ((if_neg h).symm.trans hd)) (fun h => kf ((if_pos h).symm.trans hd))
/-- a call that reads alone -/
theorem rx_roi {ρ : Type} {r : ρ} {k : Int32 → Option ρ} {x : Option Int32} {av : Array Value} (hd : g_bnd x k = some r) (hr : ∀ v, x = some v → CallRun p l e R s m args below meth c H locs cells slots 0 0 (F0 m pc ls st0) rest (vp_Si (fun r => r = v) av) (fun _ => False))
    (kk : ∀ v, k v = some r → W p l e R s m args below meth c H locs cells slots Q (F0 m (pc + 3) ls (.int v :: rest))) : W p l e R s m args below meth c H locs cells slots Q (F0 m pc ls st0) := by
  obtain ⟨v, h1, h2⟩ := g_bnd_some hd
  exact vp_callSi (hr v h1) (fun z hz => by subst hz; exact kk _ h2)
theorem rx_rol {ρ : Type} {r : ρ} {k : Int64 → Option ρ} {x : Option Int64} {av : Array Value} (hd : g_bnd x k = some r) (hr : ∀ v, x = some v → CallRun p l e R s m args below meth c H locs cells slots 0 0 (F0 m pc ls st0) rest (vp_Sl (fun r => r = v) av) (fun _ => False))
    (kk : ∀ v, k v = some r → W p l e R s m args below meth c H locs cells slots Q (F0 m (pc + 3) ls (.long v :: rest))) : W p l e R s m args below meth c H locs cells slots Q (F0 m pc ls st0) := by
  obtain ⟨v, h1, h2⟩ := g_bnd_some hd
  exact vp_callSl (hr v h1) (fun z hz => by subst hz; exact kk _ h2)
theorem cq_R_blind {av : List Value} : FrameBlind (va_Pc av (cq_R D cl tys wc)) := fun a U g mk q => ⟨q.1, q.2.1, va_K.moved (u := U) (U := U.calling g mk a) (Vm.Alike.refl U.vm) q.2.2⟩
theorem cq_U_blind {sz : Nat} {av : List Value} : FrameBlind (va_Pc av (cq_U D cl tys wc sz)) := fun a U g mk q => ⟨q.1, q.2.1, q.2.2.1, va_K.moved (u := U) (U := U.calling g mk a) (Vm.Alike.refl U.vm) q.2.2.2.1, q.2.2.2.2⟩
theorem g_fm {ws wc : va_W} {is : List Nat} (hm : is.map (fun i => ws[i]?) = wc.map some) : is.filterMap (fun i => ws[i]?) = wc := by
  have h : is.filterMap (fun i => ws[i]?) = (is.map (fun i => ws[i]?)).filterMap id := by rw [List.filterMap_map]; rfl
  rw [h, hm, List.filterMap_map]
  simp
theorem cq_R_S {As : List Value} (hK : va_K D cl tys s) (hP : va_P D cl ws H) (is : List Nat) (hm : is.map (fun i => ws[i]?) = wc.map some) : PreS s H (va_Pc As (cq_R D cl tys wc)) As :=
  ⟨cq_R_blind, fun U hU hW => ⟨rfl, by rw [hU]; exact hP.sub is (g_fm hm), va_K.moved hW.alike hK⟩⟩
theorem cq_R_V {As : List Value} {b q0 ci : Nat} {q : vw_C} {fs : List Value} (hK : va_K D cl tys s) (hP : va_P D cl ws H) (is : List Nat) (hm : is.map (fun i => ws[i]?) = wc.map some) (hc : cl[ci]? = some q) (he : ws[q0]? = some (b, .inr (ci, fs))) : PreV s H q.1 b (va_Pc (.ref b :: As) (cq_R D cl tys wc)) As :=
  ⟨cq_R_blind, va_recv hK hP hc he, fun U hU hW => ⟨rfl, by rw [hU]; exact hP.sub is (g_fm hm), va_K.moved hW.alike hK⟩⟩
theorem cq_U_S {As : List Value} (hK : va_K D cl tys s) (hP : va_P D cl ws H) (hD : va_D A ws) (is : List Nat) (hn : va_nd is = true) (hm : is.map (fun i => ws[i]?) = wc.map some) : PreS s H (va_Pc As (cq_U D cl tys wc H.size)) As :=
  ⟨cq_U_blind, fun U hU hW => ⟨rfl, by rw [hU], by rw [hU]; exact hP.sub is (g_fm hm), va_K.moved hW.alike hK, (hD.sub is hn hm).weaken (fun _ _ _ _ => trivial)⟩⟩
theorem cq_U_V {As : List Value} {b q0 ci : Nat} {q : vw_C} {fs : List Value} (hK : va_K D cl tys s) (hP : va_P D cl ws H) (hD : va_D A ws) (is : List Nat) (hn : va_nd is = true) (hm : is.map (fun i => ws[i]?) = wc.map some) (hc : cl[ci]? = some q) (he : ws[q0]? = some (b, .inr (ci, fs))) : PreV s H q.1 b (va_Pc (.ref b :: As) (cq_U D cl tys wc H.size)) As :=
  ⟨cq_U_blind, va_recv hK hP hc he, fun U hU hW => ⟨rfl, by rw [hU], by rw [hU]; exact hP.sub is (g_fm hm), va_K.moved hW.alike hK, (hD.sub is hn hm).weaken (fun _ _ _ _ => trivial)⟩⟩
/-- the same world handed on whole -/
theorem cq_U_V1 {As : List Value} {b q0 ci : Nat} {q : vw_C} {fs : List Value} (hK : va_K D cl tys s) (hP : va_P D cl ws H) (hD : va_D A ws) (hc : cl[ci]? = some q) (he : ws[q0]? = some (b, .inr (ci, fs))) : PreV s H q.1 b (va_Pc (.ref b :: As) (cq_U D cl tys ws H.size)) As :=
  ⟨cq_U_blind, va_recv hK hP hc he, fun U hU hW => ⟨rfl, by rw [hU], by rw [hU]; exact hP, va_K.moved hW.alike hK, hD.weaken (fun _ _ _ _ => trivial)⟩⟩
theorem cq_R_V1 {As : List Value} {b q0 ci : Nat} {q : vw_C} {fs : List Value} (hK : va_K D cl tys s) (hP : va_P D cl ws H) (hc : cl[ci]? = some q) (he : ws[q0]? = some (b, .inr (ci, fs))) : PreV s H q.1 b (va_Pc (.ref b :: As) (cq_R D cl tys ws)) As :=
  ⟨cq_R_blind, va_recv hK hP hc he, fun U hU hW => ⟨rfl, by rw [hU]; exact hP, va_K.moved hW.alike hK⟩⟩
/-- what comes back behind a call that changes a part of the world -/
theorem cq_back {S : Type} {wr : va_W} {w1 : S → va_W} {H1 : Heap} {t : State} {u : S} (hP : va_P D cl ws H) (hD : va_D A ws) (hS : va_S A H0 H locs) (hA : ∀ q, H0.size ≤ q → A q) (isC isR perm : List Nat) (w2 : S → va_W) (hC : isC.map (fun i => ws[i]?) = wc.map some) (hR : isR.map (fun i => ws[i]?) = wr.map some) (hn : va_nd isR = true) (hdis : ∀ i ∈ isR, i ∉ isC) (hpn : va_nd perm = true) (hpm : ∀ u, perm.map (fun i => (wr ++ w1 u)[i]?) = (w2 u).map some)
    (ht : t.heap = H1) (hk : ∀ q : Nat, q < H.size → ¬ va_A wc H.size q → H1[q]? = H[q]?) (hB : cq_V D cl tys (va_A wc H.size) w1 u t) : va_P D cl (w2 u) H1 ∧ va_D A (w2 u) := by
  have hF := va_free (wc := wc) hD hS hA isC hC
  obtain ⟨hP1, -, hD1⟩ := hB
  rw [ht] at hP1
  obtain ⟨g1, g2⟩ := va_join (wr := wr) (w1 := w1 u) hP hD isC isR hC hR hn hdis hk hF hP1 hD1
  refine ⟨fun k q hk => ?_, g2.sub perm hpn (hpm u)⟩
  have h1 : (perm.map (fun i => (wr ++ w1 u)[i]?))[k]? = some (some q) := by rw [hpm u, List.getElem?_map, hk]; rfl
  rw [List.getElem?_map] at h1
  cases hi : perm[k]? with
  | none => rw [hi] at h1; cases h1
  | some i => rw [hi] at h1; exact g1 i q (Option.some.inj h1)
/-- where the part lies, and where it comes back -/
def cq_J {S : Type} (ws wc : va_W) (w1 w2 : S → va_W) : Prop := ∃ (isC isR perm : List Nat) (wr : va_W), isC.map (fun i => ws[i]?) = wc.map some ∧ isR.map (fun i => ws[i]?) = wr.map some ∧ va_nd isR = true ∧ (∀ i ∈ isR, i ∉ isC) ∧ va_nd perm = true ∧ ∀ u, perm.map (fun i => (wr ++ w1 u)[i]?) = (w2 u).map some
theorem rx_upi {ρ S : Type} {r : ρ} {k : Int32 × S → Option ρ} {x : Option (Int32 × S)} {av : Array Value} {w1 : S → va_W} (w2 : S → va_W) (hd : g_bnd x k = some r) (hP : va_P D cl ws H) (hD : va_D A ws) (hS : va_S A H0 H locs) (hA : ∀ q, H0.size ≤ q → A q) (hJ : cq_J ws wc w1 w2)
    (hr : ∀ v, x = some v → va_Run p l e R s m args below meth c H locs cells slots 0 0 (F0 m pc ls st0) rest (va_Qi (fun a u => (a, u) = v) (cq_V D cl tys (va_A wc H.size) w1) (va_A wc H.size) av) (va_A wc H.size))
    (kk : ∀ v, k v = some r → ∀ (H1 : Heap) (locs1 : List Loc), va_P D cl (w2 v.2) H1 → va_D A (w2 v.2) → va_S A H0 H1 locs1 → W p l e R s m args below meth c H1 locs1 cells slots Q (F0 m (pc + 3) ls (.int v.1 :: rest))) : W p l e R s m args below meth c H locs cells slots Q (F0 m pc ls st0) := by
  obtain ⟨v, h1, h2⟩ := g_bnd_some hd
  obtain ⟨isC, isR, perm, wr, hC, hR, hn, hdis, hpn, hpm⟩ := hJ
  have hF := va_free (wc := wc) hD hS hA isC hC
  refine va_calli (hr v h1) hS (fun q _ h => hF q h) hF (fun z u t H1 locs1 ht hvm hw hB hz1 hk1 hS1 => ?_)
  obtain ⟨g1, g2⟩ := cq_back hP hD hS hA isC isR perm w2 hC hR hn hdis hpn hpm ht hk1 hB
  subst hw
  exact kk _ h2 H1 locs1 g1 g2 hS1
theorem rx_upl {ρ S : Type} {r : ρ} {k : Int64 × S → Option ρ} {x : Option (Int64 × S)} {av : Array Value} {w1 : S → va_W} (w2 : S → va_W) (hd : g_bnd x k = some r) (hP : va_P D cl ws H) (hD : va_D A ws) (hS : va_S A H0 H locs) (hA : ∀ q, H0.size ≤ q → A q) (hJ : cq_J ws wc w1 w2)
    (hr : ∀ v, x = some v → va_Run p l e R s m args below meth c H locs cells slots 0 0 (F0 m pc ls st0) rest (va_Ql (fun a u => (a, u) = v) (cq_V D cl tys (va_A wc H.size) w1) (va_A wc H.size) av) (va_A wc H.size))
    (kk : ∀ v, k v = some r → ∀ (H1 : Heap) (locs1 : List Loc), va_P D cl (w2 v.2) H1 → va_D A (w2 v.2) → va_S A H0 H1 locs1 → W p l e R s m args below meth c H1 locs1 cells slots Q (F0 m (pc + 3) ls (.long v.1 :: rest))) : W p l e R s m args below meth c H locs cells slots Q (F0 m pc ls st0) := by
  obtain ⟨v, h1, h2⟩ := g_bnd_some hd
  obtain ⟨isC, isR, perm, wr, hC, hR, hn, hdis, hpn, hpm⟩ := hJ
  have hF := va_free (wc := wc) hD hS hA isC hC
  refine va_calll (hr v h1) hS (fun q _ h => hF q h) hF (fun z u t H1 locs1 ht hvm hw hB hz1 hk1 hS1 => ?_)
  obtain ⟨g1, g2⟩ := cq_back hP hD hS hA isC isR perm w2 hC hR hn hdis hpn hpm ht hk1 hB
  subst hw
  exact kk _ h2 H1 locs1 g1 g2 hS1
theorem rx_upv {ρ S : Type} {r : ρ} {k : S → Option ρ} {x : Option S} {av : Array Value} {w1 : S → va_W} (w2 : S → va_W) (hd : g_bnd x k = some r) (hP : va_P D cl ws H) (hD : va_D A ws) (hS : va_S A H0 H locs) (hA : ∀ q, H0.size ≤ q → A q) (hJ : cq_J ws wc w1 w2)
    (hr : ∀ v, x = some v → va_Run p l e R s m args below meth c H locs cells slots 0 0 (F0 m pc ls st0) rest (va_Qv (fun u => u = v) (cq_V D cl tys (va_A wc H.size) w1) (va_A wc H.size) av) (va_A wc H.size))
    (kk : ∀ v, k v = some r → ∀ (H1 : Heap) (locs1 : List Loc), va_P D cl (w2 v) H1 → va_D A (w2 v) → va_S A H0 H1 locs1 → W p l e R s m args below meth c H1 locs1 cells slots Q (F0 m (pc + 3) ls rest)) : W p l e R s m args below meth c H locs cells slots Q (F0 m pc ls st0) := by
  obtain ⟨v, h1, h2⟩ := g_bnd_some hd
  obtain ⟨isC, isR, perm, wr, hC, hR, hn, hdis, hpn, hpm⟩ := hJ
  have hF := va_free (wc := wc) hD hS hA isC hC
  refine va_callv (hr v h1) hS (fun q _ h => hF q h) hF (fun u t H1 locs1 ht hvm hw hB hz1 hk1 hS1 => ?_)
  obtain ⟨g1, g2⟩ := cq_back hP hD hS hA isC isR perm w2 hC hR hn hdis hpn hpm ht hk1 hB
  subst hw
  exact kk _ h2 H1 locs1 g1 g2 hS1
theorem cq_all {S : Type} {w1 : S → va_W} {H1 : Heap} {t : State} {u : S} (hD : va_D A ws) (hS : va_S A H0 H locs) (hA : ∀ q, H0.size ≤ q → A q) (ht : t.heap = H1) (hB : cq_V D cl tys (va_A ws H.size) w1 u t) : va_P D cl (w1 u) H1 ∧ va_D A (w1 u) := by
  obtain ⟨hP1, -, hD1⟩ := hB
  rw [ht] at hP1
  refine ⟨hP1, hD1.weaken (fun k q _ h => ?_)⟩
  rcases h with ⟨j, e, h⟩ | h
  · exact hD.2 j (q.1, e) h
  · exact hA _ (Nat.le_trans hS.1 h)
theorem cq_allF (hD : va_D A ws) (hS : va_S A H0 H locs) (hA : ∀ q, H0.size ≤ q → A q) : ∀ q, va_A ws H.size q → A q := by
  intro q h
  rcases h with ⟨j, e, h⟩ | h
  · exact hD.2 j _ h
  · exact hA _ (Nat.le_trans hS.1 h)
theorem rx_upi1 {ρ S : Type} {r : ρ} {k : Int32 × S → Option ρ} {x : Option (Int32 × S)} {av : Array Value} {w1 : S → va_W} (hd : g_bnd x k = some r) (hD : va_D A ws) (hS : va_S A H0 H locs) (hA : ∀ q, H0.size ≤ q → A q)
    (hr : ∀ v, x = some v → va_Run p l e R s m args below meth c H locs cells slots 0 0 (F0 m pc ls st0) rest (va_Qi (fun a u => (a, u) = v) (cq_V D cl tys (va_A ws H.size) w1) (va_A ws H.size) av) (va_A ws H.size))
    (kk : ∀ v, k v = some r → ∀ (H1 : Heap) (locs1 : List Loc), va_P D cl (w1 v.2) H1 → va_D A (w1 v.2) → va_S A H0 H1 locs1 → W p l e R s m args below meth c H1 locs1 cells slots Q (F0 m (pc + 3) ls (.int v.1 :: rest))) : W p l e R s m args below meth c H locs cells slots Q (F0 m pc ls st0) := by
  obtain ⟨v, h1, h2⟩ := g_bnd_some hd
  have hF := cq_allF hD hS hA
  refine va_calli (hr v h1) hS (fun q _ h => hF q h) hF (fun z u t H1 locs1 ht hvm hw hB hz1 hk1 hS1 => ?_)
  obtain ⟨g1, g2⟩ := cq_all hD hS hA ht hB
  subst hw
  exact kk _ h2 H1 locs1 g1 g2 hS1
theorem rx_upl1 {ρ S : Type} {r : ρ} {k : Int64 × S → Option ρ} {x : Option (Int64 × S)} {av : Array Value} {w1 : S → va_W} (hd : g_bnd x k = some r) (hD : va_D A ws) (hS : va_S A H0 H locs) (hA : ∀ q, H0.size ≤ q → A q)
    (hr : ∀ v, x = some v → va_Run p l e R s m args below meth c H locs cells slots 0 0 (F0 m pc ls st0) rest (va_Ql (fun a u => (a, u) = v) (cq_V D cl tys (va_A ws H.size) w1) (va_A ws H.size) av) (va_A ws H.size))
    (kk : ∀ v, k v = some r → ∀ (H1 : Heap) (locs1 : List Loc), va_P D cl (w1 v.2) H1 → va_D A (w1 v.2) → va_S A H0 H1 locs1 → W p l e R s m args below meth c H1 locs1 cells slots Q (F0 m (pc + 3) ls (.long v.1 :: rest))) : W p l e R s m args below meth c H locs cells slots Q (F0 m pc ls st0) := by
  obtain ⟨v, h1, h2⟩ := g_bnd_some hd
  have hF := cq_allF hD hS hA
  refine va_calll (hr v h1) hS (fun q _ h => hF q h) hF (fun z u t H1 locs1 ht hvm hw hB hz1 hk1 hS1 => ?_)
  obtain ⟨g1, g2⟩ := cq_all hD hS hA ht hB
  subst hw
  exact kk _ h2 H1 locs1 g1 g2 hS1
theorem rx_upv1 {ρ S : Type} {r : ρ} {k : S → Option ρ} {x : Option S} {av : Array Value} {w1 : S → va_W} (hd : g_bnd x k = some r) (hD : va_D A ws) (hS : va_S A H0 H locs) (hA : ∀ q, H0.size ≤ q → A q)
    (hr : ∀ v, x = some v → va_Run p l e R s m args below meth c H locs cells slots 0 0 (F0 m pc ls st0) rest (va_Qv (fun u => u = v) (cq_V D cl tys (va_A ws H.size) w1) (va_A ws H.size) av) (va_A ws H.size))
    (kk : ∀ v, k v = some r → ∀ (H1 : Heap) (locs1 : List Loc), va_P D cl (w1 v) H1 → va_D A (w1 v) → va_S A H0 H1 locs1 → W p l e R s m args below meth c H1 locs1 cells slots Q (F0 m (pc + 3) ls rest)) : W p l e R s m args below meth c H locs cells slots Q (F0 m pc ls st0) := by
  obtain ⟨v, h1, h2⟩ := g_bnd_some hd
  have hF := cq_allF hD hS hA
  refine va_callv (hr v h1) hS (fun q _ h => hF q h) hF (fun u t H1 locs1 ht hvm hw hB hz1 hk1 hS1 => ?_)
  obtain ⟨g1, g2⟩ := cq_all hD hS hA ht hB
  subst hw
  exact kk _ h2 H1 locs1 g1 g2 hS1
/-! ends -/
theorem rx_retRi {v r : Int32} (hx : p.tables.exec = Jvm.exec) (hb : c.code = cc) (hr : meth.sig.returnType = some .int) (hlocks : meth.locks = false) (hd : some v = some r) (hdg : decode cc pc = .ok (.ireturn, 1)) : W p l e R s m args below meth c s.heap [] 0 0 (qRi below args s r) (F0 m pc ls [.int v]) :=
  W.iret hx hb hr (fun t ht _ => ⟨v, rfl, Option.some.inj hd, ht⟩) (fun _ h => by cases h) hdg hlocks
theorem rx_retRz {v r : Int32} (hx : p.tables.exec = Jvm.exec) (hb : c.code = cc) (hr : meth.sig.returnType = some .boolean) (hlocks : meth.locks = false) (hd : g_z v (some v) = some r) (hdg : decode cc pc = .ok (.ireturn, 1)) : W p l e R s m args below meth c s.heap [] 0 0 (qRi below args s r) (F0 m pc ls [.int v]) :=
  W.zret hx hb hr (g_z_nar (g_z_some hd).1).1 (fun t ht _ => ⟨v, rfl, Option.some.inj (g_z_some hd).2, ht⟩) (fun _ h => by cases h) hdg hlocks
theorem rx_retRl {v r : Int64} (hx : p.tables.exec = Jvm.exec) (hb : c.code = cc) (hr : meth.sig.returnType = some .long) (hlocks : meth.locks = false) (hd : some v = some r) (hdg : decode cc pc = .ok (.lreturn, 1)) : W p l e R s m args below meth c s.heap [] 0 0 (qRl below args s r) (F0 m pc ls [.long v]) :=
  W.lret hx hb hr (fun t ht _ => ⟨v, rfl, Option.some.inj hd, ht⟩) (fun _ h => by cases h) hdg hlocks
theorem rx_retUi {S : Type} {v : Int32} {u : S} {r : Int32 × S} {w1 : S → va_W} (hx : p.tables.exec = Jvm.exec) (hb : c.code = cc) (hr : meth.sig.returnType = some .int) (hlocks : meth.locks = false) (hd : some (v, u) = some r) (hK : va_K D cl tys s) (hP : va_P D cl (w1 u) H) (hD : va_D A (w1 u)) (hS : va_S A s.heap H locs) (hdg : decode cc pc = .ok (.ireturn, 1)) : W p l e R s m args below meth c H locs 0 0 (qUi below args s D cl tys A w1 r) (F0 m pc ls [.int v]) :=
  W.iret hx hb hr (fun t ht hW => ⟨⟨v, u, rfl, Option.some.inj hd, by rw [ht]; exact hP, va_K.moved hW.alike hK, hD⟩, hS.F ht⟩) hS.2.2 hdg hlocks
theorem rx_retUz {S : Type} {v : Int32} {u : S} {r : Int32 × S} {w1 : S → va_W} (hx : p.tables.exec = Jvm.exec) (hb : c.code = cc) (hr : meth.sig.returnType = some .boolean) (hlocks : meth.locks = false) (hd : g_z v (some (v, u)) = some r) (hK : va_K D cl tys s) (hP : va_P D cl (w1 u) H) (hD : va_D A (w1 u)) (hS : va_S A s.heap H locs) (hdg : decode cc pc = .ok (.ireturn, 1)) : W p l e R s m args below meth c H locs 0 0 (qUi below args s D cl tys A w1 r) (F0 m pc ls [.int v]) :=
  W.zret hx hb hr (g_z_nar (g_z_some hd).1).1 (fun t ht hW => ⟨⟨v, u, rfl, Option.some.inj (g_z_some hd).2, by rw [ht]; exact hP, va_K.moved hW.alike hK, hD⟩, hS.F ht⟩) hS.2.2 hdg hlocks
theorem rx_retUl {S : Type} {v : Int64} {u : S} {r : Int64 × S} {w1 : S → va_W} (hx : p.tables.exec = Jvm.exec) (hb : c.code = cc) (hr : meth.sig.returnType = some .long) (hlocks : meth.locks = false) (hd : some (v, u) = some r) (hK : va_K D cl tys s) (hP : va_P D cl (w1 u) H) (hD : va_D A (w1 u)) (hS : va_S A s.heap H locs) (hdg : decode cc pc = .ok (.lreturn, 1)) : W p l e R s m args below meth c H locs 0 0 (qUl below args s D cl tys A w1 r) (F0 m pc ls [.long v]) :=
  W.lret hx hb hr (fun t ht hW => ⟨⟨v, u, rfl, Option.some.inj hd, by rw [ht]; exact hP, va_K.moved hW.alike hK, hD⟩, hS.F ht⟩) hS.2.2 hdg hlocks
theorem rx_retUv {S : Type} {u : S} {r : S} {w1 : S → va_W} (hx : p.tables.exec = Jvm.exec) (hb : c.code = cc) (hr : meth.sig.returnType = none) (hlocks : meth.locks = false) (hd : some u = some r) (hK : va_K D cl tys s) (hP : va_P D cl (w1 u) H) (hD : va_D A (w1 u)) (hS : va_S A s.heap H locs) (hdg : decode cc pc = .ok (.return_, 1)) : W p l e R s m args below meth c H locs 0 0 (qUv below args s D cl tys A w1 r) (F0 m pc ls []) :=
  W.vret hx hb hr (fun t ht hW => ⟨⟨u, rfl, Option.some.inj hd, by rw [ht]; exact hP, va_K.moved hW.alike hK, hD⟩, hS.F ht⟩) hS.2.2 hdg hlocks
end
/-! what the start gives of static rows and texts -/
def gMW : Nat → Int32 := fun j => ([9999, 99, 5] : List Int32).getD j 0
def gAB : Nat → Int32 := fun j => ([-1, 0, 0, 0, 1, 2] : List Int32).getD j 0
def gStr : List (String × Nat × String) := [("BucketGift$Kinds", 29, "lazy"), ("BucketGift$Kinds", 31, "kind"), ("BucketGift$Kinds", 33, "stranger"), ("BucketGift$Kinds", 35, "sham"), ("BucketGift$Kinds", 37, "priest"), ("BucketGift$Kinds", 39, "farmer"), ("BucketGift$ParishText", 51, "farm"), ("BucketGift$ParishText", 59, "well"), ("BucketGift$ParishText", 74, "spring"), ("BucketGift$ParishText", 83, "did"), ("BucketGift$ParishText", 88, "step"), ("BucketGift$ParishText", 100, "need"), ("BucketGift$ParishText", 104, "has"), ("BucketGift$ParishText", 109, "sends")]
def gLen : List Nat := [4, 4, 8, 4, 6, 6, 4, 4, 6, 3, 4, 4, 3, 5]
def gByt : List (List Int32) := [[108, 97, 122, 121], [107, 105, 110, 100], [115, 116, 114, 97, 110, 103, 101, 114], [115, 104, 97, 109], [112, 114, 105, 101, 115, 116], [102, 97, 114, 109, 101, 114], [102, 97, 114, 109], [119, 101, 108, 108], [115, 112, 114, 105, 110, 103], [100, 105, 100], [115, 116, 101, 112], [110, 101, 101, 100], [104, 97, 115], [115, 101, 110, 100, 115]]
abbrev GZ : Type := Nat × Nat × (Nat → Nat) × (Nat → Nat)
def gs (gz : GZ) (A : Nat → Prop) (U : State) (H : Heap) : Prop :=
  va_Z "BucketGift$Parish" "MOST_WATER" "[I" (.ref gz.1) A U H ∧ va_T .int gz.1 3 (fun j => .int (gMW j)) A U H ∧ va_Z "BucketGift$Kinds" "ABOVE" "[I" (.ref gz.2.1) A U H ∧ va_T .int gz.2.1 6 (fun j => .int (gAB j)) A U H ∧ va_Z "java/lang/String" "COMPACT_STRINGS" "Z" (.int 1) A U H ∧ vk_S 14 gLen gByt gz.2.2.1 gz.2.2.2 A U H ∧ (∀ i, i < 14 → vk_R (gStr.getD i ("", 0, "")).1 (gStr.getD i ("", 0, "")).2.1 (gStr.getD i ("", 0, "")).2.2 (gz.2.2.1 i) U) ∧ va_Zq "jdk/internal/util/Preconditions" "SIOOBE_FORMATTER" "Ljava/util/function/BiFunction;" A U H
theorem gs_at {gz : GZ} {A B : Nat → Prop} {s U : State} {H : Heap} {locs : List Loc} (hG : gs gz A s s.heap) (hS : va_S A s.heap H locs) (hB : ∀ q, B q → A q) (hU : U.heap = H) (hW : s.WarmedH U.vm) : gs gz B U U.heap := by
  rw [hU]
  obtain ⟨h1, h2, h3, h4, h5, h6, h7, h8⟩ := hG
  exact ⟨((h1.kept hS.2.1).narrow hB).moved hW.alike, ((h2.kept hS.2.1).narrow hB).moved hW.alike, ((h3.kept hS.2.1).narrow hB).moved hW.alike, ((h4.kept hS.2.1).narrow hB).moved hW.alike, ((h5.kept hS.2.1).narrow hB).moved hW.alike, ((h6.kept hS.2.1).narrow hB).moved hW.alike, fun i hi => (h7 i hi).warm hW, ((h8.kept hS.2.1).narrow hB).moved hW.alike⟩
theorem gs_call {gz : GZ} {A : Nat → Prop} {U : State} {g : JFrame} {mk : MethodId} {a : Array Value} (h : gs gz A U U.heap) : gs gz A (U.calling g mk a) (U.calling g mk a).heap := by
  obtain ⟨h1, h2, h3, h4, h5, h6, h7, h8⟩ := h
  have ha : U.vm.Alike (U.calling g mk a).vm := Vm.Alike.refl U.vm
  exact ⟨h1.moved ha, h2.moved ha, h3.moved ha, h4.moved ha, h5.moved ha, h6.moved ha, fun i hi => (h7 i hi).same rfl, h8.moved ha⟩
def cq_RG (D : va_G) (cl : List vw_C) (tys : List (ClassId × FieldType)) (wc : va_W) (gz : GZ) : State → Prop := fun U => cq_R D cl tys wc U ∧ gs gz (fun _ => False) U U.heap
def cq_UG (D : va_G) (cl : List vw_C) (tys : List (ClassId × FieldType)) (wc : va_W) (sz : Nat) (gz : GZ) : State → Prop := fun U => cq_U D cl tys wc sz U ∧ gs gz (va_A wc sz) U U.heap
abbrev mUiG {S : Type} (l : Launch) (y : MethodName) (ws : List Cond) (rm : Room) (av : List Value) (D : va_G) (cl : List vw_C) (tys : List (ClassId × FieldType)) (wc : va_W) (sz : Nat) (gz : GZ) (w1 : S → va_W) (r : Int32 × S) : Prop := Met l y ws rm (va_Pc av (cq_UG D cl tys wc sz gz)) (va_Qi (fun a u => (a, u) = r) (cq_V D cl tys (va_A wc sz) w1) (va_A wc sz)) 0 0 (va_A wc sz)
abbrev mUvG {S : Type} (l : Launch) (y : MethodName) (ws : List Cond) (rm : Room) (av : List Value) (D : va_G) (cl : List vw_C) (tys : List (ClassId × FieldType)) (wc : va_W) (sz : Nat) (gz : GZ) (w1 : S → va_W) (r : S) : Prop := Met l y ws rm (va_Pc av (cq_UG D cl tys wc sz gz)) (va_Qv (fun u => u = r) (cq_V D cl tys (va_A wc sz) w1) (va_A wc sz)) 0 0 (va_A wc sz)
abbrev qRr (below : List Frame) (args : Array Value) (s : State) (ad : Nat → Value) (r : Nat) : State → Prop := MQ below (va_Sr (fun v => v = r) ad) args s 0 0 (fun _ => False)
abbrev mRr (l : Launch) (y : MethodName) (ws : List Cond) (rm : Room) (av : List Value) (P : State → Prop) (ad : Nat → Value) (r : Nat) : Prop := Met l y ws rm (va_Pc av P) (va_Sr (fun v => v = r) ad) 0 0 (fun _ => False)
def g_w {ρ : Type} (w : Nat) (k : Option ρ) : Option ρ := if w < 14 then k else none
theorem g_w_some {ρ : Type} {w : Nat} {k : Option ρ} {r : ρ} (h : g_w w k = some r) : w < 14 ∧ k = some r := by
  unfold g_w at h
  split at h
  · exact ⟨by assumption, h⟩
  · cases h
theorem g_wc {ρ : Type} {w : Nat} {k : Option ρ} {r : ρ} {P : Prop} (h : g_w w k = some r) (kk : w < 14 → k = some r → P) : P := kk (g_w_some h).1 (g_w_some h).2
theorem g_sel {ρ : Type} {u n : Nat} {k1 k2 : Option ρ} {r : ρ} {P : Prop} {ic : Decidable (u = n)} (hd : @ite _ (u = n) ic k1 k2 = some r) (kt : u = n → k1 = some r → P) (kf : k2 = some r → P) : P := by
  by_cases h : u = n
  · exact kt h ((if_pos h).symm.trans hd)
  · exact kf ((if_neg h).symm.trans hd)
def g_ch {ρ : Type} (v : Int32) (k : Option ρ) : Option ρ := if UInt32.toInt32 (Int32.toUInt32 v % 65536) = v then k else none
theorem g_ch_some {ρ : Type} {v : Int32} {k : Option ρ} {r : ρ} (h : g_ch v k = some r) : UInt32.toInt32 (Int32.toUInt32 v % 65536) = v ∧ k = some r := by
  unfold g_ch at h
  split at h
  · exact ⟨by assumption, h⟩
  · cases h
def g_by {ρ : Type} (v : Int32) (k : Option ρ) : Option ρ := if Int8.toInt32 (Int32.toInt8 v) = v then k else none
theorem g_by_some {ρ : Type} {v : Int32} {k : Option ρ} {r : ρ} (h : g_by v k = some r) : Int8.toInt32 (Int32.toInt8 v) = v ∧ k = some r := by
  unfold g_by at h
  split at h
  · exact ⟨by assumption, h⟩
  · cases h
section
variable {p : Program} {l : Launch} {e : Env} {R : Room} {s : State} {m : MethodId} {args : Array Value} {below : List Frame} {meth : Method} {c : Code} {H : Heap} {locs : List Loc} {cells slots : Nat} {Q : State → Prop}
variable {cc : ByteArray} {pc : Nat} {ls : Array Slot} {rest st0 : List Value} {D : va_G} {cl : List vw_C} {A : Nat → Prop} {a : Nat} {tys : List (ClassId × FieldType)} {ws wc : va_W} {gz : GZ}
theorem cq_RG_blind {av : List Value} : FrameBlind (va_Pc av (cq_RG D cl tys wc gz)) := fun a U g mk q => ⟨q.1, ⟨q.2.1.1, va_K.moved (u := U) (U := U.calling g mk a) (Vm.Alike.refl U.vm) q.2.1.2⟩, gs_call q.2.2⟩
theorem cq_UG_blind {sz : Nat} {av : List Value} : FrameBlind (va_Pc av (cq_UG D cl tys wc sz gz)) := fun a U g mk q => ⟨q.1, ⟨q.2.1.1, q.2.1.2.1, va_K.moved (u := U) (U := U.calling g mk a) (Vm.Alike.refl U.vm) q.2.1.2.2.1, q.2.1.2.2.2⟩, gs_call q.2.2⟩
theorem cq_RG_S {As : List Value} (hG : gs gz A s s.heap) (hS : va_S A s.heap H locs) (hK : va_K D cl tys s) (hP : va_P D cl ws H) (is : List Nat) (hm : is.map (fun i => ws[i]?) = wc.map some) : PreS s H (va_Pc As (cq_RG D cl tys wc gz)) As :=
  ⟨cq_RG_blind, fun U hU hW => ⟨rfl, ⟨by rw [hU]; exact hP.sub is (g_fm hm), va_K.moved hW.alike hK⟩, gs_at hG hS (fun _ h => h.elim) hU hW⟩⟩
theorem cq_RG_V {As : List Value} {b q0 ci : Nat} {q : vw_C} {fs : List Value} (hG : gs gz A s s.heap) (hS : va_S A s.heap H locs) (hK : va_K D cl tys s) (hP : va_P D cl ws H) (is : List Nat) (hm : is.map (fun i => ws[i]?) = wc.map some) (hc : cl[ci]? = some q) (he : ws[q0]? = some (b, .inr (ci, fs))) : PreV s H q.1 b (va_Pc (.ref b :: As) (cq_RG D cl tys wc gz)) As :=
  ⟨cq_RG_blind, va_recv hK hP hc he, fun U hU hW => ⟨rfl, ⟨by rw [hU]; exact hP.sub is (g_fm hm), va_K.moved hW.alike hK⟩, gs_at hG hS (fun _ h => h.elim) hU hW⟩⟩
theorem cq_UG_V {As : List Value} {b q0 ci : Nat} {q : vw_C} {fs : List Value} (hG : gs gz A s s.heap) (hS : va_S A s.heap H locs) (hA : ∀ q, s.heap.size ≤ q → A q) (hK : va_K D cl tys s) (hP : va_P D cl ws H) (hD : va_D A ws) (is : List Nat) (hn : va_nd is = true) (hm : is.map (fun i => ws[i]?) = wc.map some) (hc : cl[ci]? = some q) (he : ws[q0]? = some (b, .inr (ci, fs))) : PreV s H q.1 b (va_Pc (.ref b :: As) (cq_UG D cl tys wc H.size gz)) As :=
  ⟨cq_UG_blind, va_recv hK hP hc he, fun U hU hW => ⟨rfl, ⟨by rw [hU], by rw [hU]; exact hP.sub is (g_fm hm), va_K.moved hW.alike hK, (hD.sub is hn hm).weaken (fun _ _ _ _ => trivial)⟩, gs_at hG hS (va_free hD hS hA is hm) hU hW⟩⟩
theorem cq_UG_V1 {As : List Value} {b q0 ci : Nat} {q : vw_C} {fs : List Value} (hG : gs gz A s s.heap) (hS : va_S A s.heap H locs) (hA : ∀ q, s.heap.size ≤ q → A q) (hK : va_K D cl tys s) (hP : va_P D cl ws H) (hD : va_D A ws) (hc : cl[ci]? = some q) (he : ws[q0]? = some (b, .inr (ci, fs))) : PreV s H q.1 b (va_Pc (.ref b :: As) (cq_UG D cl tys ws H.size gz)) As :=
  ⟨cq_UG_blind, va_recv hK hP hc he, fun U hU hW => ⟨rfl, ⟨by rw [hU], by rw [hU]; exact hP, va_K.moved hW.alike hK, hD.weaken (fun _ _ _ _ => trivial)⟩, gs_at hG hS (cq_allF hD hS hA) hU hW⟩⟩
theorem cq_RG_V1 {As : List Value} {b q0 ci : Nat} {q : vw_C} {fs : List Value} (hG : gs gz A s s.heap) (hS : va_S A s.heap H locs) (hK : va_K D cl tys s) (hP : va_P D cl ws H) (hc : cl[ci]? = some q) (he : ws[q0]? = some (b, .inr (ci, fs))) : PreV s H q.1 b (va_Pc (.ref b :: As) (cq_RG D cl tys ws gz)) As :=
  ⟨cq_RG_blind, va_recv hK hP hc he, fun U hU hW => ⟨rfl, ⟨by rw [hU]; exact hP, va_K.moved hW.alike hK⟩, gs_at hG hS (fun _ h => h.elim) hU hW⟩⟩
/-- a text as the receiver -/
theorem cq_RG_T {As : List Value} {w : Nat} (hw : w < 14) (hG : gs gz A s s.heap) (hS : va_S A s.heap H locs) (hK : va_K D cl tys s) (hP : va_P D cl ws H) : PreV s H "java/lang/String" (gz.2.2.1 w) (va_Pc (.ref (gz.2.2.1 w) :: As) (cq_RG D cl tys [] gz)) As :=
  ⟨cq_RG_blind, vk_recv hG.2.2.2.2.2.1 hw hS, fun U hU hW => ⟨rfl, ⟨by rw [hU]; exact hP.sub [] rfl, va_K.moved hW.alike hK⟩, gs_at hG hS (fun _ h => h.elim) hU hW⟩⟩
theorem rx_rov {ρ : Type} {r : ρ} {k : Unit → Option ρ} {x : Option Unit} {av : Array Value} (hd : g_bnd x k = some r) (hr : ∀ v, x = some v → CallRun p l e R s m args below meth c H locs cells slots 0 0 (F0 m pc ls st0) rest (va_Sv (fun r => r = v) av) (fun _ => False))
    (kk : ∀ v, k v = some r → W p l e R s m args below meth c H locs cells slots Q (F0 m (pc + 3) ls rest)) : W p l e R s m args below meth c H locs cells slots Q (F0 m pc ls st0) := by
  obtain ⟨v, h1, h2⟩ := g_bnd_some hd
  exact va_csv (hr v h1) (fun _ => kk _ h2)
theorem rx_ror {ρ : Type} {r : ρ} {k : Nat → Option ρ} {x : Option Nat} {av : Array Value} {ad : Nat → Value} (hd : g_bnd x k = some r) (hr : ∀ v, x = some v → CallRun p l e R s m args below meth c H locs cells slots 0 0 (F0 m pc ls st0) rest (va_Sr (fun r => r = v) ad av) (fun _ => False))
    (kk : ∀ v, k v = some r → W p l e R s m args below meth c H locs cells slots Q (F0 m (pc + 3) ls (ad v :: rest))) : W p l e R s m args below meth c H locs cells slots Q (F0 m pc ls st0) := by
  obtain ⟨v, h1, h2⟩ := g_bnd_some hd
  exact va_csr (hr v h1) (fun z hz => by subst hz; exact kk _ h2)
theorem rx_retRr {v r : Nat} {ad : Nat → Value} {rt : FieldType} (hx : p.tables.exec = Jvm.exec) (hb : c.code = cc) (hr : meth.sig.returnType = some rt) (hrt : (∃ n, rt = .object n) ∨ ∃ t, rt = .array t) (hlocks : meth.locks = false) (had : ∃ a, ad v = .ref a) (hd : some v = some r) (hdg : decode cc pc = .ok (.areturn, 1)) : W p l e R s m args below meth c s.heap [] 0 0 (qRr below args s ad r) (F0 m pc ls [ad v]) :=
  W.aret hx hb hr hrt (Or.inr had) (fun t ht _ => ⟨v, rfl, Option.some.inj hd, ht⟩) (fun _ h => by cases h) hdg hlocks
theorem rx_retRc {v r : Int32} (hx : p.tables.exec = Jvm.exec) (hb : c.code = cc) (hr : meth.sig.returnType = some .char) (hlocks : meth.locks = false) (hd : g_ch v (some v) = some r) (hdg : decode cc pc = .ok (.ireturn, 1)) : W p l e R s m args below meth c s.heap [] 0 0 (qRi below args s r) (F0 m pc ls [.int v]) :=
  W.zret hx hb hr (by have h := pk_nc v; rw [(g_ch_some hd).1] at h; exact h) (fun t ht _ => ⟨v, rfl, Option.some.inj (g_ch_some hd).2, ht⟩) (fun _ h => by cases h) hdg hlocks
theorem rx_retRb {v r : Int32} (hx : p.tables.exec = Jvm.exec) (hb : c.code = cc) (hr : meth.sig.returnType = some .byte) (hlocks : meth.locks = false) (hd : g_by v (some v) = some r) (hdg : decode cc pc = .ok (.ireturn, 1)) : W p l e R s m args below meth c s.heap [] 0 0 (qRi below args s r) (F0 m pc ls [.int v]) :=
  W.zret hx hb hr (by have h := pk_nb v; rw [(g_by_some hd).1] at h; exact h) (fun t ht _ => ⟨v, rfl, Option.some.inj (g_by_some hd).2, ht⟩) (fun _ h => by cases h) hdg hlocks
theorem rx_tald {ρ : Type} {r : ρ} {k : Int32 → Option ρ} {t n : Nat} {f : Nat → Int32} (hx : p.tables.exec = Jvm.exec) (hb : c.code = cc) (hT : va_T .int t n (fun j => .int (f j)) A s s.heap) (hS : va_S A s.heap H locs) {i : Int32} (hd : g_ald f n i k = some r) (hdg : decode cc pc = .ok (.iaload, 1))
    (kk : ∀ v, k v = some r → W p l e R s m args below meth c H locs cells slots Q (F0 m (pc + 1) ls (.int v :: rest))) : W p l e R s m args below meth c H locs cells slots Q (F0 m pc ls (.int i :: .ref t :: rest)) :=
  va_ti hx hb hT hS (g_in_some hd).1 rfl hdg (kk _ (g_in_some hd).2)
theorem rx_bald {ρ : Type} {r : ρ} {k : Int32 → Option ρ} {t n : Nat} {f : Nat → Int32} (hx : p.tables.exec = Jvm.exec) (hb : c.code = cc) (hT : va_T .byte t n (fun j => .int (f j)) A s s.heap) (hS : va_S A s.heap H locs) {i : Int32} (hd : g_ald f n i k = some r) (hdg : decode cc pc = .ok (.baload, 1))
    (kk : ∀ v, k v = some r → W p l e R s m args below meth c H locs cells slots Q (F0 m (pc + 1) ls (.int v :: rest))) : W p l e R s m args below meth c H locs cells slots Q (F0 m pc ls (.int i :: .ref t :: rest)) :=
  va_tb hx hb hT hS (g_in_some hd).1 rfl hdg (kk _ (g_in_some hd).2)
end
def fJ0_checkIndex_df160 (fu : Nat) (x0 x1 : Int32) : Option Unit := if x0 < 0 then none else if x0 < x1 then some () else none
theorem g_four {P : Nat → Prop} (h0 : P 0) (h1 : P 1) (h2 : P 2) (h3 : P 3) (k : Nat) (hk : k < 4) : P k := by
  rcases (show k = 0 ∨ k = 1 ∨ k = 2 ∨ k = 3 by omega) with rfl | rfl | rfl | rfl
  · exact h0
  · exact h1
  · exact h2
  · exact h3
theorem rx_aald {p : Program} {l : Launch} {e : Env} {R : Room} {s : State} {m : MethodId} {args : Array Value} {below : List Frame} {meth : Method} {c : Code} {H : Heap} {locs : List Loc} {cells slots : Nat} {Q : State → Prop} {cc : ByteArray} {pc : Nat} {ls : Array Slot} {rest : List Value} {D : va_G} {cl : List vw_C} {a : Nat} {tys : List (ClassId × FieldType)} {ws : va_W} {ρ : Type} {r : ρ} {kd : Nat → Option ρ} {b : Nat → Nat} (hx : p.tables.exec = Jvm.exec) (hb : c.code = cc) (hK : va_K D cl tys s) (hP : va_P D cl ws H) (q0 t0 : Nat) {cA : ClassId} {C : String} (ha : ws[q0]? = some (a, .inl (cA, 4, .inr (.inr (.inr (.inr (fun k => some (b (1 + k))))))))) (ht : tys[t0]? = some (cA, .object C)) {i : Int32} (hd : g_in i 4 (g_nm i.toNatClampNeg kd) = some r) (hdg : decode cc pc = .ok (.aaload, 1))
    (kk : ∀ k, k < 4 → kd k = some r → W p l e R s m args below meth c H locs cells slots Q (F0 m (pc + 1) ls (.ref (b (1 + k)) :: rest))) : W p l e R s m args below meth c H locs cells slots Q (F0 m pc ls (.int i :: .ref a :: rest)) := by
  have hin := (g_in_some hd).1
  exact va_aldq hx hb hK hP q0 t0 ha ht hin hdg (kk _ (Nat.not_le.mp fun q => hin (Or.inr q)) (g_in_some hd).2)
