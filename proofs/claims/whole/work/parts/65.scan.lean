/-! the text: its bytes B, its length L; runs, tokens -/
def srt (b : Nat) : Nat := if 97 ≤ b ∧ b ≤ 122 then 1 else if 48 ≤ b ∧ b ≤ 57 then 2 else if b = 32 then 0 else if b = 59 then 3 else 4
theorem srt_d : ∀ b, b < 256 → fX5_sortOf 0 (nI b) = some (nI (srt b)) := by decide +kernel
theorem srt_s (fu : Nat) {b : Nat} (hb : b < 256) : fX5_sortOf fu (nI b) = some (nI (srt b)) := srt_d b hb
theorem srt_le (b : Nat) : srt b ≤ 4 := by
  unfold srt
  split
  · omega
  · split
    · omega
    · split
      · omega
      · split <;> omega
def run (B : Nat → Nat) (b : Nat) : Nat → Nat → Nat
  | 0, k => k
  | n + 1, k => if srt (B k) = b then run B b n (k + 1) else k
theorem run_y {B : Nat → Nat} {b n k : Nat} (h : srt (B k) = b) : run B b (n + 1) k = run B b n (k + 1) := if_pos h
theorem run_n {B : Nat → Nat} {b n k : Nat} (h : ¬ srt (B k) = b) : run B b (n + 1) k = k := if_neg h
theorem run_ge (B : Nat → Nat) (b : Nat) : ∀ (n k : Nat), k ≤ run B b n k ∧ run B b n k ≤ k + n := by
  intro n
  induction n with
  | zero => intro k; exact ⟨Nat.le_refl _, Nat.le_refl _⟩
  | succ n ih =>
    intro k
    unfold run
    split
    · have := ih (k + 1); omega
    · omega
def skp (B : Nat → Nat) (L k : Nat) : Nat := run B 0 (L - k) k
def enq (B : Nat → Nat) (L q : Nat) : Nat := if q < L then (if srt (B q) = 1 ∨ srt (B q) = 2 then run B (srt (B q)) (L - (q + 1)) (q + 1) else q + 1) else q
theorem skp_ge (B : Nat → Nat) {L k : Nat} (h : k ≤ L) : k ≤ skp B L k ∧ skp B L k ≤ L := by
  have := run_ge B 0 (L - k) k
  unfold skp
  omega
theorem enq_ge (B : Nat → Nat) {L q : Nat} (h : q < L) : q + 1 ≤ enq B L q ∧ enq B L q ≤ L := by
  unfold enq
  rw [if_pos h]
  have := run_ge B (srt (B q)) (L - (q + 1)) (q + 1)
  split <;> omega
theorem enq_L (B : Nat → Nat) (L : Nat) : enq B L L = L := if_neg (by omega)
theorem skp_L (B : Nat → Nat) (L : Nat) : skp B L L = L := by
  unfold skp
  rw [Nat.sub_self]
  rfl
theorem skp_0 {B : Nat → Nat} {L k : Nat} (hk : k < L) (h : srt (B k) = 0) : skp B L k = skp B L (k + 1) := by
  unfold skp
  rw [show L - k = (L - (k + 1)) + 1 by omega, run_y h]
theorem skp_n {B : Nat → Nat} {L k : Nat} (hk : k < L) (h : ¬ srt (B k) = 0) : skp B L k = k := by
  unfold skp
  rw [show L - k = (L - (k + 1)) + 1 by omega, run_n h]
theorem skp_sk (B : Nat → Nat) (L : Nat) : ∀ (n k : Nat), k + n = L → skp B L (skp B L k) = skp B L k ∧ (skp B L k < L → ¬ srt (B (skp B L k)) = 0) := by
  intro n
  induction n with
  | zero =>
    intro k hk
    have : k = L := by omega
    subst this
    rw [skp_L, skp_L]
    exact ⟨rfl, fun h => absurd h (by omega)⟩
  | succ n ih =>
    intro k hk
    by_cases h : srt (B k) = 0
    · rw [skp_0 (by omega) h]
      exact ih (k + 1) (by omega)
    · rw [skp_n (by omega) h, skp_n (by omega) h]
      exact ⟨rfl, fun _ => h⟩
/-- a number's value, held just above the most -/
def vc (B : Nat → Nat) : Nat → Nat → Nat → Nat
  | 0, _, v => v
  | n + 1, k, v => vc B n (k + 1) (min 10000 (10 * v + (B k - 48)))
theorem vc_le (B : Nat → Nat) : ∀ (n k v : Nat), v ≤ 10000 → vc B n k v ≤ 10000 := by
  intro n
  induction n with
  | zero => intro k v h; exact h
  | succ n ih => intro k v _; exact ih (k + 1) _ (Nat.min_le_left _ _)
/-! the class's tokens -/
def TEND (L : Nat) (z : TKS) (M : Nat) : Prop := kgSorts z M = nI 5 ∧ kgStarts z M = nI L ∧ kgMany z = nI (M + 1)
def TOK (B : Nat → Nat) (L : Nat) (z : TKS) (c q : Nat) : Prop := kgSorts z c = nI (srt (B q)) ∧ kgStarts z c = nI q ∧ kgLengths z c = nI (enq B L q - q) ∧ (srt (B q) = 2 → kgValues z c = nI (vc B (enq B L q - q) q 0)) ∧ ¬ srt (B q) = 0
def TT (B : Nat → Nat) (L : Nat) (z : TKS) (M : Nat) : Nat → Nat → Nat → Prop
  | 0, c, q => q = L ∧ c = M ∧ TEND L z M
  | n + 1, c, q => (q = L ∧ c = M ∧ TEND L z M) ∨ (q < L ∧ c < M ∧ TOK B L z c q ∧ TT B L z M n (c + 1) (skp B L (enq B L q)))
def TX (B : Nat → Nat) (L : Nat) (z : TKS) (M c q : Nat) : Prop := ∃ n, TT B L z M n c q
theorem TX_i {B : Nat → Nat} {L : Nat} {z : TKS} {M c q : Nat} (h : TX B L z M c q) : (q = L ∧ c = M ∧ TEND L z M) ∨ (q < L ∧ c < M ∧ TOK B L z c q ∧ TX B L z M (c + 1) (skp B L (enq B L q))) := by
  obtain ⟨n, h⟩ := h
  cases n with
  | zero => exact Or.inl h
  | succ n =>
    rcases h with h | ⟨h1, h2, h3, h4⟩
    · exact Or.inl h
    · exact Or.inr ⟨h1, h2, h3, n, h4⟩
theorem TX_e {B : Nat → Nat} {L : Nat} {z : TKS} {M : Nat} (h : TEND L z M) : TX B L z M M L := ⟨0, rfl, rfl, h⟩
theorem TX_s {B : Nat → Nat} {L : Nat} {z : TKS} {M c q : Nat} (h1 : q < L) (h2 : c < M) (h3 : TOK B L z c q) (h4 : TX B L z M (c + 1) (skp B L (enq B L q))) : TX B L z M c q := by
  obtain ⟨n, h4⟩ := h4
  exact ⟨n + 1, Or.inr ⟨h1, h2, h3, h4⟩⟩
theorem TX_M : ∀ (n : Nat) {B : Nat → Nat} {L : Nat} {z : TKS} {M c q : Nat}, TT B L z M n c q → c ≤ M := by
  intro n
  induction n with
  | zero => intro B L z M c q h; have := h.2.1; omega
  | succ n ih =>
    intro B L z M c q h
    rcases h with h | ⟨h1, h2, h3, h4⟩
    · have := h.2.1; omega
    · omega
theorem kM1 (z : TKS) (k : Nat) (v : Int32) : kgMany (kuSorts z k v) = kgMany z := rfl
theorem kM2 (z : TKS) (k : Nat) (v : Int32) : kgMany (kuStarts z k v) = kgMany z := rfl
theorem kM3 (z : TKS) (k : Nat) (v : Int32) : kgMany (kuLengths z k v) = kgMany z := rfl
theorem kM4 (z : TKS) (k : Nat) (v : Int32) : kgMany (kuValues z k v) = kgMany z := rfl
def beg (z : TKS) (c : Nat) (s k : Int32) : TKS := ksMany (kuValues (kuLengths (kuStarts (kuSorts z c s) c k) c 1) c 0) (nI (c + 1))
theorem begin_s (fu : Nat) (z : TKS) {c : Nat} (hc : c < 121) (hm : kgMany z = nI c) (s k : Int32) : fX5_begin fu z s k = some (beg z c s k) := by
  unfold fX5_begin
  simp only [kM1, kM2, kM3, kM4]
  rw [hm, in_nI hc (by decide), in_nI hc (by decide), in_nI hc (by decide), in_nI hc (by decide), nI_clamp (by omega), nI_1]
  rfl
theorem addDigit_s (fu : Nat) (z : TKS) {c : Nat} (hc : c < 121) (hm : kgMany z = nI (c + 1)) {v d : Nat} (hv : kgValues z c = nI v) (hv1 : v ≤ 10000) (hd : d ≤ 9) : fX5_addDigit fu z (nI d) = some (kuValues z c (nI (min 10000 (10 * v + d)))) := by
  unfold fX5_addDigit
  rw [hm, nI_pred, nm_s, ald_nI hc (by decide), in_nI hc (by decide), hv, nI_clamp (by omega), show (10 : Int32) = nI 10 from rfl, pk_mul, nI_add, show (10000 : Int32) = nI 10000 from rfl, min_c (by decide) (by omega)]
theorem srt_dig {b : Nat} (h : srt b = 2) : 48 ≤ b ∧ b ≤ 57 := by
  unfold srt at h
  split at h
  · cases h
  · split at h
    · assumption
    · split at h
      · cases h
      · split at h <;> cases h
theorem srt_let {b : Nat} (h : srt b = 1) : 97 ≤ b ∧ b ≤ 122 := by
  unfold srt at h
  split at h
  · assumption
  · split at h
    · cases h
    · split at h
      · cases h
      · split at h <;> cases h
theorem n48 {b : Nat} (h : 48 ≤ b) : nI b - (48 : Int32) = nI (b - 48) := pk_sub (a := b) (b := 48) h
/-- what stays as it was, but for the last token's length and value -/
def FRM (z z' : TKS) (c : Nat) : Prop := (∀ i, i < c → kgSorts z' i = kgSorts z i ∧ kgStarts z' i = kgStarts z i) ∧ (∀ i, i + 1 < c → kgLengths z' i = kgLengths z i ∧ kgValues z' i = kgValues z i) ∧ (∀ i, kgBytes z' i = kgBytes z i) ∧ kgAt z' = kgAt z
def ext (B : Nat → Nat) (b n k : Nat) : Nat := if b = 1 ∨ b = 2 then run B b n k else k
