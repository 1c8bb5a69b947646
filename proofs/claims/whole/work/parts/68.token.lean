/-! the reference's place in the text -/
def PF (t : MS) (s : SS) (fr to vl wr : Int32) : MS := msIsWrong (msValue (msTo (msFrom (msS t s) fr) to) vl) wr
theorem PF_S (t : MS) (s : SS) (a b c d : Int32) : mgS (PF t s a b c d) = s := rfl
theorem PF_f (t : MS) (s : SS) (a b c d : Int32) : mgFrom (PF t s a b c d) = a := rfl
theorem PF_t (t : MS) (s : SS) (a b c d : Int32) : mgTo (PF t s a b c d) = b := rfl
theorem PF_v (t : MS) (s : SS) (a b c d : Int32) : mgValue (PF t s a b c d) = c := rfl
theorem PF_w (t : MS) (s : SS) (a b c d : Int32) : mgIsWrong (PF t s a b c d) = d := rfl
theorem PF_b (t : MS) (s : SS) (a b c d : Int32) : mgTape (PF t s a b c d) = mgTape t := rfl
theorem PF_l (t : MS) (s : SS) (a b c d : Int32) : mgTaped (PF t s a b c d) = mgTaped t := rfl
theorem PF_sS (t : MS) (s s' : SS) (a b c d : Int32) : msS (PF t s a b c d) s' = PF t s' a b c d := rfl
theorem PF_uS (t : MS) (s : SS) (k : Nat) (v : Int32) (a b c d : Int32) : muS (PF t s a b c d) k v = PF t (upd s k v) a b c d := rfl
theorem PF_sf (t : MS) (s : SS) (a b c d x : Int32) : msFrom (PF t s a b c d) x = PF t s x b c d := rfl
theorem PF_st (t : MS) (s : SS) (a b c d x : Int32) : msTo (PF t s a b c d) x = PF t s a x c d := rfl
theorem PF_sv (t : MS) (s : SS) (a b c d x : Int32) : msValue (PF t s a b c d) x = PF t s a b x d := rfl
theorem PF_sw (t : MS) (s : SS) (a b c d x : Int32) : msIsWrong (PF t s a b c d) x = PF t s a b c x := rfl
/-- the text on the reference's tape -/
def TAP (B : Nat → Nat) (L : Nat) (t : MS) : Prop := L ≤ 120 ∧ mgTaped t = nI L ∧ ∀ j, j < L → B j < 256 ∧ mgTape t j = nI (B j)
def by' (B : Nat → Nat) (L k : Nat) : Int32 := if k < L then nI (B k) else -1
theorem byteAt_s (fu : Nat) {B : Nat → Nat} {L : Nat} {t : MS} (hT : TAP B L t) (s : SS) (a b c d : Int32) {k : Nat} (hk : k ≤ 120) : fX7_byteAt fu (PF t s a b c d) (nI k) = some (by' B L k) := by
  obtain ⟨hL, h1, h2⟩ := hT
  unfold fX7_byteAt by'
  rw [PF_l, PF_b, h1]
  by_cases h : k < L
  · rw [if_neg (nI_ge h (by omega)), ald_nI (by omega) (by decide), (h2 k h).2, if_pos h]
  · rw [if_pos (nI_le (by omega) (by omega)), if_neg h]
theorem let_d : ∀ b, b < 256 → fX7_isLetter 0 (nI b) = some (tb (srt b = 1)) := by decide +kernel
theorem dig_d : ∀ b, b < 256 → fX7_isDigit 0 (nI b) = some (tb (srt b = 2)) := by decide +kernel
theorem isLet_s (fu : Nat) {B : Nat → Nat} {L : Nat} {t : MS} (hT : TAP B L t) (k : Nat) : fX7_isLetter fu (by' B L k) = some (tb (k < L ∧ srt (B k) = 1)) := by
  unfold by'
  by_cases h : k < L
  · rw [if_pos h]
    refine (let_d (B k) (hT.2.2 k h).1).trans ?_
    unfold tb
    by_cases h2 : srt (B k) = 1
    · rw [if_pos h2, if_pos ⟨h, h2⟩]
    · rw [if_neg h2, if_neg (fun w => h2 w.2)]
  · rw [if_neg h]
    have e : fX7_isLetter fu (-1) = some 0 := (by decide +kernel : fX7_isLetter 0 (-1) = some 0)
    rw [e]
    unfold tb
    rw [if_neg (fun w => h w.1)]
theorem isDig_s (fu : Nat) {B : Nat → Nat} {L : Nat} {t : MS} (hT : TAP B L t) (k : Nat) : fX7_isDigit fu (by' B L k) = some (tb (k < L ∧ srt (B k) = 2)) := by
  unfold by'
  by_cases h : k < L
  · rw [if_pos h]
    refine (dig_d (B k) (hT.2.2 k h).1).trans ?_
    unfold tb
    by_cases h2 : srt (B k) = 2
    · rw [if_pos h2, if_pos ⟨h, h2⟩]
    · rw [if_neg h2, if_neg (fun w => h2 w.2)]
  · rw [if_neg h]
    have e : fX7_isDigit fu (-1) = some 0 := (by decide +kernel : fX7_isDigit 0 (-1) = some 0)
    rw [e]
    unfold tb
    rw [if_neg (fun w => h w.1)]
theorem b32_d : ∀ b, b < 256 → ((nI b = (32 : Int32)) ↔ srt b = 0) ∧ ((nI b = (59 : Int32)) ↔ srt b = 3) := by decide +kernel
theorem is32 {B : Nat → Nat} {L : Nat} {t : MS} (hT : TAP B L t) (k : Nat) : (by' B L k = (32 : Int32)) ↔ (k < L ∧ srt (B k) = 0) := by
  unfold by'
  by_cases h : k < L
  · rw [if_pos h, (b32_d _ (hT.2.2 k h).1).1]
    exact ⟨fun w => ⟨h, w⟩, fun w => w.2⟩
  · rw [if_neg h]
    exact ⟨fun w => absurd w (by decide), fun w => absurd w.1 h⟩
theorem is59 {B : Nat → Nat} {L : Nat} {t : MS} (hT : TAP B L t) (k : Nat) : (by' B L k = (59 : Int32)) ↔ (k < L ∧ srt (B k) = 3) := by
  unfold by'
  by_cases h : k < L
  · rw [if_pos h, (b32_d _ (hT.2.2 k h).1).2]
    exact ⟨fun w => ⟨h, w⟩, fun w => w.2⟩
  · rw [if_neg h]
    exact ⟨fun w => absurd w (by decide), fun w => absurd w.1 h⟩
/-! a token -/
theorem tok_1 (fu : Nat) {B : Nat → Nat} {L : Nat} {t : MS} (hT : TAP B L t) (s : SS) (a c d : Int32) : ∀ (n k fuel : Nat), k + n = L → n < fuel → g_lp (fun _ => none) (fX7_token_b86B fu 1 0) fuel (PF t s a (nI k) c d) = some (PF t s a (nI (run B 1 n k)) c d) := by
  have hL := hT.1
  intro n
  induction n with
  | zero =>
    intro k fuel hk hf
    obtain ⟨j, rfl⟩ : ∃ j, fuel = j + 1 := ⟨fuel - 1, by omega⟩
    rw [g_lp_s]
    unfold fX7_token_b86B fX7_token_b104
    rw [if_neg (by decide), PF_t, byteAt_s fu hT s a _ c d (by omega), bnd_s, isLet_s fu hT, bnd_s, tb_if, if_neg (by omega), if_pos rfl]
    rfl
  | succ n ih =>
    intro k fuel hk hf
    obtain ⟨j, rfl⟩ : ∃ j, fuel = j + 1 := ⟨fuel - 1, by omega⟩
    have st : ∀ K, fX7_token_b86B fu 1 0 K (PF t s a (nI k) c d) = if k < L ∧ srt (B k) = 1 then K (PF t s a (nI (k + 1)) c d) else some (PF t s a (nI k) c d) := by
      intro K
      unfold fX7_token_b86B fX7_token_b104
      rw [if_neg (by decide), PF_t, byteAt_s fu hT s a _ c d (by omega), bnd_s, isLet_s fu hT, bnd_s, tb_if, if_pos rfl, nI_1, PF_st]
    rw [g_lp_s, st]
    by_cases h : srt (B k) = 1
    · rw [if_pos ⟨by omega, h⟩, ih (k + 1) j (by omega) (by omega), run_y h]
    · rw [if_neg (fun w => h w.2), run_n h]
theorem tok_2 (fu : Nat) {B : Nat → Nat} {L : Nat} {t : MS} (hT : TAP B L t) (s : SS) (a c d : Int32) : ∀ (n k fuel : Nat), k + n = L → n < fuel → g_lp (fun _ => none) (fX7_token_b86B fu 0 1) fuel (PF t s a (nI k) c d) = some (PF t s a (nI (run B 2 n k)) c d) := by
  have hL := hT.1
  intro n
  induction n with
  | zero =>
    intro k fuel hk hf
    obtain ⟨j, rfl⟩ : ∃ j, fuel = j + 1 := ⟨fuel - 1, by omega⟩
    rw [g_lp_s]
    unfold fX7_token_b86B fX7_token_b104
    rw [if_pos rfl, if_neg (by decide), PF_t, byteAt_s fu hT s a _ c d (by omega), bnd_s, isDig_s fu hT, bnd_s, tb_if, if_neg (by omega)]
    rfl
  | succ n ih =>
    intro k fuel hk hf
    obtain ⟨j, rfl⟩ : ∃ j, fuel = j + 1 := ⟨fuel - 1, by omega⟩
    have st : ∀ K, fX7_token_b86B fu 0 1 K (PF t s a (nI k) c d) = if k < L ∧ srt (B k) = 2 then K (PF t s a (nI (k + 1)) c d) else some (PF t s a (nI k) c d) := by
      intro K
      unfold fX7_token_b86B fX7_token_b104
      rw [if_pos rfl, if_neg (by decide), PF_t, byteAt_s fu hT s a _ c d (by omega), bnd_s, isDig_s fu hT, bnd_s, tb_if, nI_1, PF_st]
    rw [g_lp_s, st]
    by_cases h : srt (B k) = 2
    · rw [if_pos ⟨by omega, h⟩, ih (k + 1) j (by omega) (by omega), run_y h]
    · rw [if_neg (fun w => h w.2), run_n h]
theorem tok_0 {fu : Nat} (hF : 0 < fu) (u : MS) : fX7_token_b86 fu 0 0 u = some u := by
  obtain ⟨j, rfl⟩ : ∃ j, fu = j + 1 := ⟨fu - 1, by omega⟩
  unfold fX7_token_b86
  rw [g_lp_s]
  unfold fX7_token_b86B fX7_token_b104
  rw [if_pos rfl, if_pos rfl]
theorem tok_q {fu : Nat} (hF : 5000 ≤ fu) {B : Nat → Nat} {L : Nat} {t : MS} (hT : TAP B L t) (s : SS) (b c d : Int32) {q : Nat} (hq : q ≤ L) (hn : q < L → ¬ srt (B q) = 0) (K : MS → Option MS) : fX7_token_b8B fu K (PF t s (nI q) b c d) = some (PF t s (nI q) (nI (enq B L q)) c d) := by
  have hL := hT.1
  unfold fX7_token_b8B
  rw [PF_f, byteAt_s fu hT s _ b c d (by omega), bnd_s, if_neg (fun w => hn ((is32 hT q).mp w).1 ((is32 hT q).mp w).2), bnd_s, isLet_s fu hT, bnd_s, bnd_s, isDig_s fu hT, bnd_s, PF_l, hT.2.1, PF_st, PF_st, nI_1]
  by_cases hqL : q < L
  · rw [if_neg (nI_ge hqL (by omega))]
    unfold enq
    rw [if_pos hqL]
    by_cases h1 : srt (B q) = 1
    · have e1 : tb (q < L ∧ srt (B q) = 1) = 1 := if_pos ⟨hqL, h1⟩
      have e2 : tb (q < L ∧ srt (B q) = 2) = 0 := if_neg (by omega)
      rw [e1, e2, if_pos (Or.inl h1), h1]
      exact tok_1 fu hT s (nI q) c d (L - (q + 1)) (q + 1) fu (by omega) (by omega)
    · have e1 : tb (q < L ∧ srt (B q) = 1) = 0 := if_neg (by omega)
      by_cases h2 : srt (B q) = 2
      · have e2 : tb (q < L ∧ srt (B q) = 2) = 1 := if_pos ⟨hqL, h2⟩
        rw [e1, e2, if_pos (Or.inr h2), h2]
        exact tok_2 fu hT s (nI q) c d (L - (q + 1)) (q + 1) fu (by omega) (by omega)
      · have e2 : tb (q < L ∧ srt (B q) = 2) = 0 := if_neg (by omega)
        rw [e1, e2, if_neg (by omega), tok_0 (by omega)]
  · have e1 : tb (q < L ∧ srt (B q) = 1) = 0 := if_neg (by omega)
    have e2 : tb (q < L ∧ srt (B q) = 2) = 0 := if_neg (by omega)
    rw [if_pos (nI_le (by omega) (by omega)), e1, e2, tok_0 (by omega)]
    unfold enq
    rw [if_neg hqL]
theorem tok_l {fu : Nat} (hF : 5000 ≤ fu) {B : Nat → Nat} {L : Nat} {t : MS} (hT : TAP B L t) (s : SS) (b c d : Int32) : ∀ (n k fuel : Nat), k + n = L → n < fuel → g_lp (fun _ => none) (fX7_token_b8B fu) fuel (PF t s (nI k) b c d) = some (PF t s (nI (skp B L k)) (nI (enq B L (skp B L k))) c d) := by
  have hL := hT.1
  intro n
  induction n with
  | zero =>
    intro k fuel hk hf
    obtain ⟨j, rfl⟩ : ∃ j, fuel = j + 1 := ⟨fuel - 1, by omega⟩
    have hkL : k = L := by omega
    rw [g_lp_s, tok_q hF hT s b c d (by omega) (fun w => absurd w (by omega)), hkL, skp_L]
  | succ n ih =>
    intro k fuel hk hf
    obtain ⟨j, rfl⟩ : ∃ j, fuel = j + 1 := ⟨fuel - 1, by omega⟩
    by_cases h : srt (B k) = 0
    · have st : ∀ K, fX7_token_b8B fu K (PF t s (nI k) b c d) = K (PF t s (nI (k + 1)) b c d) := by
        intro K
        unfold fX7_token_b8B
        rw [PF_f, byteAt_s fu hT s _ b c d (by omega), bnd_s, if_pos ((is32 hT k).mpr ⟨by omega, h⟩), nI_1, PF_sf]
      rw [g_lp_s, st, ih (k + 1) j (by omega) (by omega), skp_0 (by omega) h]
    · rw [g_lp_s, tok_q hF hT s b c d (by omega) (fun _ => h), skp_n (by omega) h]
theorem token_s {fu : Nat} (hF : 5000 ≤ fu) {B : Nat → Nat} {L : Nat} {t : MS} (hT : TAP B L t) (s : SS) (a c d : Int32) {k : Nat} (hk : k ≤ L) : fX7_token fu (PF t s a (nI k) c d) = some (PF t s (nI (skp B L k)) (nI (enq B L (skp B L k))) c d) := by
  have hL := hT.1
  unfold fX7_token
  rw [PF_t, PF_sf]
  exact tok_l hF hT s (nI k) c d (L - k) k fu (by omega) (by omega)
theorem must_y {fu : Nat} (hF : 5000 ≤ fu) {B : Nat → Nat} {L : Nat} {t : MS} (hT : TAP B L t) (s : SS) (a c : Int32) {k : Nat} (hk : k ≤ L) : fX7_must fu (PF t s a (nI k) c 0) 1 = some (PF t s (nI (skp B L k)) (nI (enq B L (skp B L k))) c 0) := by
  unfold fX7_must fX7_must_b17
  rw [PF_w, if_pos rfl, if_neg (by decide), z_0, PF_sw, PF_w, if_pos rfl, token_s hF hT s a c 0 hk, bnd_s]
theorem must_n (fu : Nat) (t : MS) (s : SS) (a b c : Int32) : fX7_must fu (PF t s a b c 0) 0 = some (PF t s a b c 1) := by
  unfold fX7_must fX7_must_b17
  rw [PF_w, if_pos rfl, if_pos rfl, z_1, PF_sw, PF_w, if_neg (by decide)]
theorem must_w (fu : Nat) (t : MS) (s : SS) (a b c x : Int32) : fX7_must fu (PF t s a b c 1) x = some (PF t s a b c 1) := by
  unfold fX7_must fX7_must_b17
  rw [PF_w, if_neg (by decide), z_1, PF_sw, PF_w, if_neg (by decide)]
/-! a number -/
def vr (B : Nat → Nat) : Nat → Nat → Nat → Nat
  | 0, _, v => v
  | n + 1, k, v => vr B n (k + 1) (if v ≤ 9999 then 10 * v + (B k - 48) else v)
theorem vr_vc (B : Nat → Nat) : ∀ (n k v : Nat), vc B n k (min 10000 v) = min 10000 (vr B n k v) := by
  intro n
  induction n with
  | zero => intro k v; rfl
  | succ n ih =>
    intro k v
    show vc B n (k + 1) (min 10000 (10 * min 10000 v + (B k - 48))) = min 10000 (vr B n (k + 1) (if v ≤ 9999 then 10 * v + (B k - 48) else v))
    rw [← ih]
    congr 1
    split <;> omega
theorem vr_lt (B : Nat → Nat) : ∀ (n k v : Nat), v ≤ 100300 → (∀ j, k ≤ j → j < k + n → B j < 256) → vr B n k v ≤ 100300 := by
  intro n
  induction n with
  | zero => intro k v h _; exact h
  | succ n ih =>
    intro k v h hb
    refine ih (k + 1) _ ?_ (fun j h1 h2 => hb j (by omega) (by omega))
    have := hb k (by omega) (by omega)
    split <;> omega
theorem run_all (B : Nat → Nat) (b : Nat) : ∀ (n k j : Nat), k ≤ j → j < run B b n k → srt (B j) = b := by
  intro n
  induction n with
  | zero => intro k j h1 h2; have : j < k := h2; omega
  | succ n ih =>
    intro k j h1 h2
    by_cases h : srt (B k) = b
    · rw [run_y h] at h2
      by_cases e : j = k
      · subst e; exact h
      · exact ih (k + 1) j (by omega) h2
    · rw [run_n h] at h2; omega
theorem enq_all {B : Nat → Nat} {L q b : Nat} (hb : b = 1 ∨ b = 2) (h : srt (B q) = b) : ∀ j, q ≤ j → j < enq B L q → srt (B j) = b := by
  intro j h1 h2
  by_cases e : j = q
  · subst e; exact h
  · unfold enq at h2
    split at h2
    · rw [if_pos (by rw [h]; exact hb), h] at h2
      exact run_all B b _ (q + 1) j (by omega) h2
    · omega
theorem num_l (fu : Nat) {B : Nat → Nat} {L : Nat} {t : MS} (hT : TAP B L t) (s : SS) (a c d lo hi : Int32) {e : Nat} (he : e ≤ L) : ∀ (n k fuel v : Nat), k + n = e → n < fuel → v ≤ 100300 → (∀ j, k ≤ j → j < e → 48 ≤ B j) → g_lp (fun _ _ _ => none) (fX7_number_b29B fu lo hi 1) fuel (PF t s a (nI e) c d) (nI v) (nI k) = fX7_number_b79 fu (PF t s a (nI e) c d) lo hi 1 (nI (vr B n k v)) := by
  have hL := hT.1
  intro n
  induction n with
  | zero =>
    intro k fuel v hk hf hv h48
    obtain ⟨j, rfl⟩ : ∃ j, fuel = j + 1 := ⟨fuel - 1, by omega⟩
    rw [g_lp_s]
    unfold fX7_number_b29B
    rw [PF_t, if_pos (nI_le (by omega) (by omega))]
    rfl
  | succ n ih =>
    intro k fuel v hk hf hv h48
    obtain ⟨j, rfl⟩ : ∃ j, fuel = j + 1 := ⟨fuel - 1, by omega⟩
    have hb := hT.2.2 k (by omega)
    have h4 := h48 k (by omega) (by omega)
    have st : ∀ K, fX7_number_b29B fu lo hi 1 K (PF t s a (nI e) c d) (nI v) (nI k) = K (PF t s a (nI e) c d) (nI (if v ≤ 9999 then 10 * v + (B k - 48) else v)) (nI (k + 1)) := by
      intro K
      unfold fX7_number_b29B
      rw [PF_t, if_neg (nI_ge (by omega) (by omega)), if_neg (by decide), PF_b, ald_nI (by omega) (by decide), hb.2, nm_s, nm_s, nm_s, nI_1, show (10 : Int32) = nI 10 from rfl, pk_mul, nI_add, show (48 : Int32) = nI 48 from rfl, pk_sub (by omega)]
      by_cases hc : v ≤ 9999
      · rw [if_pos (show nI v ≤ (9999 : Int32) from nI_le (b := 9999) hc (by decide)), if_pos hc, show 10 * v + B k - 48 = 10 * v + (B k - 48) by omega]
      · rw [if_neg (show ¬ nI v ≤ (9999 : Int32) from nI_ge (a := 9999) (by omega) (by omega)), if_neg hc]
    rw [g_lp_s, st, ih (k + 1) j _ (by omega) (by omega) (by split <;> omega) (fun i h1 h2 => h48 i (by omega) h2)]
    rfl
theorem number_s {fu : Nat} (hF : 5000 ≤ fu) {B : Nat → Nat} {L : Nat} {t : MS} (hT : TAP B L t) (s : SS) (c hi : Int32) {q : Nat} (hq : q ≤ L) {N : Nat} (hi9 : hi = nI N ∧ N ≤ 9999 ∨ hi = -1) : ((q < L ∧ srt (B q) = 2 ∧ nI (vcq B L q) ≤ hi) ∧ fX7_number fu (PF t s (nI q) (nI (enq B L q)) c 0) 0 hi = some (PF t s (nI (skp B L (enq B L q))) (nI (enq B L (skp B L (enq B L q)))) (nI (vcq B L q)) 0)) ∨ (¬ (q < L ∧ srt (B q) = 2 ∧ nI (vcq B L q) ≤ hi) ∧ ∃ c', fX7_number fu (PF t s (nI q) (nI (enq B L q)) c 0) 0 hi = some (PF t s (nI q) (nI (enq B L q)) c' 1)) := by
  have hL := hT.1
  unfold fX7_number
  rw [PF_w, if_pos rfl, PF_f, byteAt_s fu hT s _ _ c 0 (by omega), bnd_s, isDig_s fu hT, bnd_s, nm_s]
  by_cases hd : q < L ∧ srt (B q) = 2
  · have e1 : tb (q < L ∧ srt (B q) = 2) = 1 := if_pos hd
    have hen := enq_ge B hd.1
    have hall := enq_all (L := L) (Or.inr rfl) hd.2
    have n1 := num_l fu hT s (nI q) c 0 0 hi (e := enq B L q) hen.2 (enq B L q - q) q fu 0 (by omega) (by omega) (by omega) (fun j h1 h2 => (srt_dig (hall j h1 h2)).1)
    have f1 : fX7_number_b29 fu 0 hi 1 (PF t s (nI q) (nI (enq B L q)) c 0) 0 (nI q) = _ := n1
    have hvl := vr_lt B (enq B L q - q) q 0 (by omega) (fun j h1 h2 => (hT.2.2 j (by omega)).1)
    have hvv : vcq B L q = min 10000 (vr B (enq B L q - q) q 0) := vr_vc B (enq B L q - q) q 0
    rw [e1, f1, hvv]
    generalize vr B (enq B L q - q) q 0 = v at hvl ⊢
    unfold fX7_number_b79 fX7_number_b108
    rw [if_neg (by decide), in_s, bnd_s, tb_if, PF_sv]
    have key : (nI (min 10000 v) ≤ hi) ↔ ((0 : Int32) ≤ nI v ∧ nI v ≤ hi) := by
      rcases hi9 with ⟨rfl, hN⟩ | rfl
      · rw [nI_leI (by omega) (by omega), nI_leI (by omega) (by omega)]
        exact ⟨fun w => ⟨nI_pos' (by omega), by omega⟩, fun w => by have := w.2; omega⟩
      · exact ⟨fun w => absurd w (m1_gt (by omega)), fun w => absurd w.2 (m1_gt (by omega))⟩
    by_cases hk : nI (min 10000 v) ≤ hi
    · have hv9 : v ≤ 9999 := by
        rcases hi9 with ⟨rfl, hN⟩ | rfl
        · have := (nI_leI (by omega) (by omega)).mp hk; omega
        · exact absurd hk (m1_gt (by omega))
      have hmv : min 10000 v = v := by omega
      rw [if_pos (key.mp hk), must_y hF hT s _ _ hen.2, bnd_s, hmv]
      exact Or.inl ⟨⟨hd.1, hd.2, by rw [hmv] at hk; exact hk⟩, rfl⟩
    · rw [if_neg (fun w => hk (key.mpr w)), must_n, bnd_s]
      exact Or.inr ⟨fun w => hk w.2.2, _, rfl⟩
  · have e1 : tb (q < L ∧ srt (B q) = 2) = 0 := if_neg hd
    refine Or.inr ⟨fun w => hd ⟨w.1, w.2.1⟩, 0, ?_⟩
    rw [e1]
    have fz : ∀ (fuel : Nat), 0 < fuel → g_lp (fun _ _ _ => none) (fX7_number_b29B fu 0 hi 0) fuel (PF t s (nI q) (nI (enq B L q)) c 0) 0 (nI q) = some (PF t s (nI q) (nI (enq B L q)) 0 1) := by
      intro fuel hf
      obtain ⟨j, rfl⟩ : ∃ j, fuel = j + 1 := ⟨fuel - 1, by omega⟩
      rw [g_lp_s]
      unfold fX7_number_b29B fX7_number_b79 fX7_number_b108
      rw [if_pos rfl, if_pos rfl, PF_sv, must_n, bnd_s]
      split <;> rfl
    exact fz fu (by omega)
theorem number_w (fu : Nat) (t : MS) (s : SS) (a b c lo hi : Int32) : fX7_number fu (PF t s a b c 1) lo hi = some (PF t s a b c 1) := by
  unfold fX7_number
  rw [PF_w, if_neg (by decide)]
