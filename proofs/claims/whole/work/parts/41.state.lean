/-! the parish: the reference's row of numbers s, and the class's parish x that tells the same -/
abbrev SS : Type := Nat → Int32
def vv (s : SS) (j : Nat) : Nat := (s j).toNatClampNeg
def okv (s : SS) (j hi : Nat) : Prop := s j = nI (vv s j) ∧ vv s j ≤ hi
def RP (x : PS) (s : SS) : Prop := pgPeople x = s 0 ∧ pgDay x = s 1 ∧ (∀ j, j < 3 → pgWater x j = s (2 + j)) ∧ (∀ f, f < 4 → pgNeed x f = s (5 + 4 * f + 0) ∧ pgStore x f = s (5 + 4 * f + 1) ∧ pgThirst x f = s (5 + 4 * f + 2) ∧ pgSends x f = s (5 + 4 * f + 3)) ∧ (∀ p, p < 8 → pgKinds x p = s (21 + 4 * p + 0) ∧ pgDeeds x p = s (21 + 4 * p + 1) ∧ pgSteps x p = s (21 + 4 * p + 2) ∧ pgAsked x p = s (21 + 4 * p + 3))
def IS (s : SS) : Prop := okv s 0 8 ∧ True ∧ okv s 2 9999 ∧ okv s 3 99 ∧ okv s 4 5 ∧ (∀ f, f < 4 → okv s (5 + 4 * f + 0) 20 ∧ okv s (5 + 4 * f + 1) 9999 ∧ okv s (5 + 4 * f + 2) 9999 ∧ (s (5 + 4 * f + 3) = -1 ∨ (okv s (5 + 4 * f + 3) 7 ∧ vv s (5 + 4 * f + 3) < vv s 0))) ∧ ∀ p, p < vv s 0 → okv s (21 + 4 * p + 0) 5 ∧ okv s (21 + 4 * p + 1) 255 ∧ (okv s (21 + 4 * p + 2) 7 ∧ vv s (21 + 4 * p + 2) < vv s 0) ∧ okv s (21 + 4 * p + 3) 9
theorem vv_us (s : SS) (j : Nat) {v : Nat} (h : v < 2 ^ 31) : vv (upd s j (nI v)) j = v := by
  unfold vv
  rw [pk_us, nI_clamp h]
theorem vv_un (s : SS) {j k : Nat} (x : Int32) (h : j ≠ k) : vv (upd s k x) j = vv s j := by
  unfold vv
  rw [pk_un h]
theorem ok_us (s : SS) (j : Nat) {v hi : Nat} (h : v ≤ hi) (hh : hi < 2 ^ 31) : okv (upd s j (nI v)) j hi := by
  refine ⟨?_, ?_⟩
  · rw [vv_us s j (by omega), pk_us]
  · rw [vv_us s j (by omega)]; exact h
theorem ok_un (s : SS) {j k : Nat} (x : Int32) {hi : Nat} (h : j ≠ k) (g : okv s j hi) : okv (upd s k x) j hi := by
  refine ⟨?_, ?_⟩
  · rw [vv_un s x h, pk_un h]; exact g.1
  · rw [vv_un s x h]; exact g.2
theorem ok_of {s : SS} {j v hi : Nat} (h : s j = nI v) (hv : v ≤ hi) (hh : hi < 2 ^ 31) : okv s j hi ∧ vv s j = v := by
  have e : vv s j = v := by unfold vv; rw [h, nI_clamp (by omega)]
  exact ⟨⟨by rw [e]; exact h, by rw [e]; exact hv⟩, e⟩

theorem RP_uNeed {x : PS} {s : SS} (h : RP x s) {q : Nat} (hq : q < 4) (v : Int32) : RP (puNeed x q v) (upd s (5 + 4 * q + 0) v) := by
  obtain ⟨h1, h2, h3, h4, h5⟩ := h
  refine ⟨?_, ?_, ?_, ?_, ?_⟩
  · show pgPeople x = upd s _ v _; rw [pk_un (by omega)]; exact h1
  · show pgDay x = upd s _ v _; rw [pk_un (by omega)]; exact h2
  · intro j hj; show pgWater x j = upd s _ v _; rw [pk_un (by omega)]; exact h3 j hj
  · intro g hg
    obtain ⟨a, b, c, d⟩ := h4 g hg
    refine ⟨?_, ?_, ?_, ?_⟩
    · show upd (pgNeed x) q v g = upd s _ v _
      by_cases e : g = q
      · subst e; rw [pk_us, pk_us]
      · rw [pk_un e, pk_un (by omega)]; exact a
    · show pgStore x g = upd s _ v _; rw [pk_un (by omega)]; exact b
    · show pgThirst x g = upd s _ v _; rw [pk_un (by omega)]; exact c
    · show pgSends x g = upd s _ v _; rw [pk_un (by omega)]; exact d
  · intro g hg
    obtain ⟨a, b, c, d⟩ := h5 g hg
    refine ⟨?_, ?_, ?_, ?_⟩
    · show pgKinds x g = upd s _ v _; rw [pk_un (by omega)]; exact a
    · show pgDeeds x g = upd s _ v _; rw [pk_un (by omega)]; exact b
    · show pgSteps x g = upd s _ v _; rw [pk_un (by omega)]; exact c
    · show pgAsked x g = upd s _ v _; rw [pk_un (by omega)]; exact d
theorem RP_uStore {x : PS} {s : SS} (h : RP x s) {q : Nat} (hq : q < 4) (v : Int32) : RP (puStore x q v) (upd s (5 + 4 * q + 1) v) := by
  obtain ⟨h1, h2, h3, h4, h5⟩ := h
  refine ⟨?_, ?_, ?_, ?_, ?_⟩
  · show pgPeople x = upd s _ v _; rw [pk_un (by omega)]; exact h1
  · show pgDay x = upd s _ v _; rw [pk_un (by omega)]; exact h2
  · intro j hj; show pgWater x j = upd s _ v _; rw [pk_un (by omega)]; exact h3 j hj
  · intro g hg
    obtain ⟨a, b, c, d⟩ := h4 g hg
    refine ⟨?_, ?_, ?_, ?_⟩
    · show pgNeed x g = upd s _ v _; rw [pk_un (by omega)]; exact a
    · show upd (pgStore x) q v g = upd s _ v _
      by_cases e : g = q
      · subst e; rw [pk_us, pk_us]
      · rw [pk_un e, pk_un (by omega)]; exact b
    · show pgThirst x g = upd s _ v _; rw [pk_un (by omega)]; exact c
    · show pgSends x g = upd s _ v _; rw [pk_un (by omega)]; exact d
  · intro g hg
    obtain ⟨a, b, c, d⟩ := h5 g hg
    refine ⟨?_, ?_, ?_, ?_⟩
    · show pgKinds x g = upd s _ v _; rw [pk_un (by omega)]; exact a
    · show pgDeeds x g = upd s _ v _; rw [pk_un (by omega)]; exact b
    · show pgSteps x g = upd s _ v _; rw [pk_un (by omega)]; exact c
    · show pgAsked x g = upd s _ v _; rw [pk_un (by omega)]; exact d
theorem RP_uThirst {x : PS} {s : SS} (h : RP x s) {q : Nat} (hq : q < 4) (v : Int32) : RP (puThirst x q v) (upd s (5 + 4 * q + 2) v) := by
  obtain ⟨h1, h2, h3, h4, h5⟩ := h
  refine ⟨?_, ?_, ?_, ?_, ?_⟩
  · show pgPeople x = upd s _ v _; rw [pk_un (by omega)]; exact h1
  · show pgDay x = upd s _ v _; rw [pk_un (by omega)]; exact h2
  · intro j hj; show pgWater x j = upd s _ v _; rw [pk_un (by omega)]; exact h3 j hj
  · intro g hg
    obtain ⟨a, b, c, d⟩ := h4 g hg
    refine ⟨?_, ?_, ?_, ?_⟩
    · show pgNeed x g = upd s _ v _; rw [pk_un (by omega)]; exact a
    · show pgStore x g = upd s _ v _; rw [pk_un (by omega)]; exact b
    · show upd (pgThirst x) q v g = upd s _ v _
      by_cases e : g = q
      · subst e; rw [pk_us, pk_us]
      · rw [pk_un e, pk_un (by omega)]; exact c
    · show pgSends x g = upd s _ v _; rw [pk_un (by omega)]; exact d
  · intro g hg
    obtain ⟨a, b, c, d⟩ := h5 g hg
    refine ⟨?_, ?_, ?_, ?_⟩
    · show pgKinds x g = upd s _ v _; rw [pk_un (by omega)]; exact a
    · show pgDeeds x g = upd s _ v _; rw [pk_un (by omega)]; exact b
    · show pgSteps x g = upd s _ v _; rw [pk_un (by omega)]; exact c
    · show pgAsked x g = upd s _ v _; rw [pk_un (by omega)]; exact d
theorem RP_uSends {x : PS} {s : SS} (h : RP x s) {q : Nat} (hq : q < 4) (v : Int32) : RP (puSends x q v) (upd s (5 + 4 * q + 3) v) := by
  obtain ⟨h1, h2, h3, h4, h5⟩ := h
  refine ⟨?_, ?_, ?_, ?_, ?_⟩
  · show pgPeople x = upd s _ v _; rw [pk_un (by omega)]; exact h1
  · show pgDay x = upd s _ v _; rw [pk_un (by omega)]; exact h2
  · intro j hj; show pgWater x j = upd s _ v _; rw [pk_un (by omega)]; exact h3 j hj
  · intro g hg
    obtain ⟨a, b, c, d⟩ := h4 g hg
    refine ⟨?_, ?_, ?_, ?_⟩
    · show pgNeed x g = upd s _ v _; rw [pk_un (by omega)]; exact a
    · show pgStore x g = upd s _ v _; rw [pk_un (by omega)]; exact b
    · show pgThirst x g = upd s _ v _; rw [pk_un (by omega)]; exact c
    · show upd (pgSends x) q v g = upd s _ v _
      by_cases e : g = q
      · subst e; rw [pk_us, pk_us]
      · rw [pk_un e, pk_un (by omega)]; exact d
  · intro g hg
    obtain ⟨a, b, c, d⟩ := h5 g hg
    refine ⟨?_, ?_, ?_, ?_⟩
    · show pgKinds x g = upd s _ v _; rw [pk_un (by omega)]; exact a
    · show pgDeeds x g = upd s _ v _; rw [pk_un (by omega)]; exact b
    · show pgSteps x g = upd s _ v _; rw [pk_un (by omega)]; exact c
    · show pgAsked x g = upd s _ v _; rw [pk_un (by omega)]; exact d
theorem RP_uKinds {x : PS} {s : SS} (h : RP x s) {q : Nat} (hq : q < 8) (v : Int32) : RP (puKinds x q v) (upd s (21 + 4 * q + 0) v) := by
  obtain ⟨h1, h2, h3, h4, h5⟩ := h
  refine ⟨?_, ?_, ?_, ?_, ?_⟩
  · show pgPeople x = upd s _ v _; rw [pk_un (by omega)]; exact h1
  · show pgDay x = upd s _ v _; rw [pk_un (by omega)]; exact h2
  · intro j hj; show pgWater x j = upd s _ v _; rw [pk_un (by omega)]; exact h3 j hj
  · intro g hg
    obtain ⟨a, b, c, d⟩ := h4 g hg
    refine ⟨?_, ?_, ?_, ?_⟩
    · show pgNeed x g = upd s _ v _; rw [pk_un (by omega)]; exact a
    · show pgStore x g = upd s _ v _; rw [pk_un (by omega)]; exact b
    · show pgThirst x g = upd s _ v _; rw [pk_un (by omega)]; exact c
    · show pgSends x g = upd s _ v _; rw [pk_un (by omega)]; exact d
  · intro g hg
    obtain ⟨a, b, c, d⟩ := h5 g hg
    refine ⟨?_, ?_, ?_, ?_⟩
    · show upd (pgKinds x) q v g = upd s _ v _
      by_cases e : g = q
      · subst e; rw [pk_us, pk_us]
      · rw [pk_un e, pk_un (by omega)]; exact a
    · show pgDeeds x g = upd s _ v _; rw [pk_un (by omega)]; exact b
    · show pgSteps x g = upd s _ v _; rw [pk_un (by omega)]; exact c
    · show pgAsked x g = upd s _ v _; rw [pk_un (by omega)]; exact d
theorem RP_uDeeds {x : PS} {s : SS} (h : RP x s) {q : Nat} (hq : q < 8) (v : Int32) : RP (puDeeds x q v) (upd s (21 + 4 * q + 1) v) := by
  obtain ⟨h1, h2, h3, h4, h5⟩ := h
  refine ⟨?_, ?_, ?_, ?_, ?_⟩
  · show pgPeople x = upd s _ v _; rw [pk_un (by omega)]; exact h1
  · show pgDay x = upd s _ v _; rw [pk_un (by omega)]; exact h2
  · intro j hj; show pgWater x j = upd s _ v _; rw [pk_un (by omega)]; exact h3 j hj
  · intro g hg
    obtain ⟨a, b, c, d⟩ := h4 g hg
    refine ⟨?_, ?_, ?_, ?_⟩
    · show pgNeed x g = upd s _ v _; rw [pk_un (by omega)]; exact a
    · show pgStore x g = upd s _ v _; rw [pk_un (by omega)]; exact b
    · show pgThirst x g = upd s _ v _; rw [pk_un (by omega)]; exact c
    · show pgSends x g = upd s _ v _; rw [pk_un (by omega)]; exact d
  · intro g hg
    obtain ⟨a, b, c, d⟩ := h5 g hg
    refine ⟨?_, ?_, ?_, ?_⟩
    · show pgKinds x g = upd s _ v _; rw [pk_un (by omega)]; exact a
    · show upd (pgDeeds x) q v g = upd s _ v _
      by_cases e : g = q
      · subst e; rw [pk_us, pk_us]
      · rw [pk_un e, pk_un (by omega)]; exact b
    · show pgSteps x g = upd s _ v _; rw [pk_un (by omega)]; exact c
    · show pgAsked x g = upd s _ v _; rw [pk_un (by omega)]; exact d
theorem RP_uSteps {x : PS} {s : SS} (h : RP x s) {q : Nat} (hq : q < 8) (v : Int32) : RP (puSteps x q v) (upd s (21 + 4 * q + 2) v) := by
  obtain ⟨h1, h2, h3, h4, h5⟩ := h
  refine ⟨?_, ?_, ?_, ?_, ?_⟩
  · show pgPeople x = upd s _ v _; rw [pk_un (by omega)]; exact h1
  · show pgDay x = upd s _ v _; rw [pk_un (by omega)]; exact h2
  · intro j hj; show pgWater x j = upd s _ v _; rw [pk_un (by omega)]; exact h3 j hj
  · intro g hg
    obtain ⟨a, b, c, d⟩ := h4 g hg
    refine ⟨?_, ?_, ?_, ?_⟩
    · show pgNeed x g = upd s _ v _; rw [pk_un (by omega)]; exact a
    · show pgStore x g = upd s _ v _; rw [pk_un (by omega)]; exact b
    · show pgThirst x g = upd s _ v _; rw [pk_un (by omega)]; exact c
    · show pgSends x g = upd s _ v _; rw [pk_un (by omega)]; exact d
  · intro g hg
    obtain ⟨a, b, c, d⟩ := h5 g hg
    refine ⟨?_, ?_, ?_, ?_⟩
    · show pgKinds x g = upd s _ v _; rw [pk_un (by omega)]; exact a
    · show pgDeeds x g = upd s _ v _; rw [pk_un (by omega)]; exact b
    · show upd (pgSteps x) q v g = upd s _ v _
      by_cases e : g = q
      · subst e; rw [pk_us, pk_us]
      · rw [pk_un e, pk_un (by omega)]; exact c
    · show pgAsked x g = upd s _ v _; rw [pk_un (by omega)]; exact d
theorem RP_uAsked {x : PS} {s : SS} (h : RP x s) {q : Nat} (hq : q < 8) (v : Int32) : RP (puAsked x q v) (upd s (21 + 4 * q + 3) v) := by
  obtain ⟨h1, h2, h3, h4, h5⟩ := h
  refine ⟨?_, ?_, ?_, ?_, ?_⟩
  · show pgPeople x = upd s _ v _; rw [pk_un (by omega)]; exact h1
  · show pgDay x = upd s _ v _; rw [pk_un (by omega)]; exact h2
  · intro j hj; show pgWater x j = upd s _ v _; rw [pk_un (by omega)]; exact h3 j hj
  · intro g hg
    obtain ⟨a, b, c, d⟩ := h4 g hg
    refine ⟨?_, ?_, ?_, ?_⟩
    · show pgNeed x g = upd s _ v _; rw [pk_un (by omega)]; exact a
    · show pgStore x g = upd s _ v _; rw [pk_un (by omega)]; exact b
    · show pgThirst x g = upd s _ v _; rw [pk_un (by omega)]; exact c
    · show pgSends x g = upd s _ v _; rw [pk_un (by omega)]; exact d
  · intro g hg
    obtain ⟨a, b, c, d⟩ := h5 g hg
    refine ⟨?_, ?_, ?_, ?_⟩
    · show pgKinds x g = upd s _ v _; rw [pk_un (by omega)]; exact a
    · show pgDeeds x g = upd s _ v _; rw [pk_un (by omega)]; exact b
    · show pgSteps x g = upd s _ v _; rw [pk_un (by omega)]; exact c
    · show upd (pgAsked x) q v g = upd s _ v _
      by_cases e : g = q
      · subst e; rw [pk_us, pk_us]
      · rw [pk_un e, pk_un (by omega)]; exact d
theorem RP_uWater {x : PS} {s : SS} (h : RP x s) {q : Nat} (hq : q < 3) (v : Int32) : RP (puWater x q v) (upd s (2 + q) v) := by
  obtain ⟨h1, h2, h3, h4, h5⟩ := h
  refine ⟨?_, ?_, ?_, ?_, ?_⟩
  · show pgPeople x = upd s _ v _; rw [pk_un (by omega)]; exact h1
  · show pgDay x = upd s _ v _; rw [pk_un (by omega)]; exact h2
  · intro j hj
    show upd (pgWater x) q v j = upd s _ v _
    by_cases e : j = q
    · subst e; rw [pk_us, pk_us]
    · rw [pk_un e, pk_un (by omega)]; exact h3 j hj
  · intro g hg
    obtain ⟨a, b, c, d⟩ := h4 g hg
    refine ⟨?_, ?_, ?_, ?_⟩
    · show pgNeed x g = upd s _ v _; rw [pk_un (by omega)]; exact a
    · show pgStore x g = upd s _ v _; rw [pk_un (by omega)]; exact b
    · show pgThirst x g = upd s _ v _; rw [pk_un (by omega)]; exact c
    · show pgSends x g = upd s _ v _; rw [pk_un (by omega)]; exact d
  · intro g hg
    obtain ⟨a, b, c, d⟩ := h5 g hg
    refine ⟨?_, ?_, ?_, ?_⟩
    · show pgKinds x g = upd s _ v _; rw [pk_un (by omega)]; exact a
    · show pgDeeds x g = upd s _ v _; rw [pk_un (by omega)]; exact b
    · show pgSteps x g = upd s _ v _; rw [pk_un (by omega)]; exact c
    · show pgAsked x g = upd s _ v _; rw [pk_un (by omega)]; exact d
theorem RP_sPeople {x : PS} {s : SS} (h : RP x s) (v : Int32) : RP (psPeople x v) (upd s 0 v) := by
  obtain ⟨h1, h2, h3, h4, h5⟩ := h
  refine ⟨?_, ?_, ?_, ?_, ?_⟩
  · show v = upd s 0 v 0; rw [pk_us]
  · show pgDay x = upd s _ v _; rw [pk_un (by omega)]; exact h2
  · intro j hj; show pgWater x j = upd s _ v _; rw [pk_un (by omega)]; exact h3 j hj
  · intro g hg
    obtain ⟨a, b, c, d⟩ := h4 g hg
    refine ⟨?_, ?_, ?_, ?_⟩
    · show pgNeed x g = upd s _ v _; rw [pk_un (by omega)]; exact a
    · show pgStore x g = upd s _ v _; rw [pk_un (by omega)]; exact b
    · show pgThirst x g = upd s _ v _; rw [pk_un (by omega)]; exact c
    · show pgSends x g = upd s _ v _; rw [pk_un (by omega)]; exact d
  · intro g hg
    obtain ⟨a, b, c, d⟩ := h5 g hg
    refine ⟨?_, ?_, ?_, ?_⟩
    · show pgKinds x g = upd s _ v _; rw [pk_un (by omega)]; exact a
    · show pgDeeds x g = upd s _ v _; rw [pk_un (by omega)]; exact b
    · show pgSteps x g = upd s _ v _; rw [pk_un (by omega)]; exact c
    · show pgAsked x g = upd s _ v _; rw [pk_un (by omega)]; exact d
theorem RP_sDay {x : PS} {s : SS} (h : RP x s) (v : Int32) : RP (psDay x v) (upd s 1 v) := by
  obtain ⟨h1, h2, h3, h4, h5⟩ := h
  refine ⟨?_, ?_, ?_, ?_, ?_⟩
  · show pgPeople x = upd s _ v _; rw [pk_un (by omega)]; exact h1
  · show v = upd s 1 v 1; rw [pk_us]
  · intro j hj; show pgWater x j = upd s _ v _; rw [pk_un (by omega)]; exact h3 j hj
  · intro g hg
    obtain ⟨a, b, c, d⟩ := h4 g hg
    refine ⟨?_, ?_, ?_, ?_⟩
    · show pgNeed x g = upd s _ v _; rw [pk_un (by omega)]; exact a
    · show pgStore x g = upd s _ v _; rw [pk_un (by omega)]; exact b
    · show pgThirst x g = upd s _ v _; rw [pk_un (by omega)]; exact c
    · show pgSends x g = upd s _ v _; rw [pk_un (by omega)]; exact d
  · intro g hg
    obtain ⟨a, b, c, d⟩ := h5 g hg
    refine ⟨?_, ?_, ?_, ?_⟩
    · show pgKinds x g = upd s _ v _; rw [pk_un (by omega)]; exact a
    · show pgDeeds x g = upd s _ v _; rw [pk_un (by omega)]; exact b
    · show pgSteps x g = upd s _ v _; rw [pk_un (by omega)]; exact c
    · show pgAsked x g = upd s _ v _; rw [pk_un (by omega)]; exact d
theorem RP_sDry {x : PS} {s : SS} (h : RP x s) (v : Int32) : RP (psDryFarms x v) s := h
