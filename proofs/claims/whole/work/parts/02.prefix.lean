/-! lists of tokens, each ahead of its parts: g i is the number of parts of token i of a region; D i what is due before token i -/
def pf_D (g : Nat → Nat) : Nat → Nat
  | 0 => 1
  | i + 1 => pf_D g i + g i - 1
/-- the first n tokens are one expression -/
def pf_V (g : Nat → Nat) (n : Nat) : Prop := (∀ i, i < n → 0 < pf_D g i) ∧ pf_D g n = 0
/-- the expression at i ends before m -/
def pf_E (g : Nat → Nat) (i m : Nat) : Prop := i < m ∧ pf_D g m + 1 = pf_D g i ∧ ∀ j, i ≤ j → j < m → pf_D g i ≤ pf_D g j
theorem pf_ex {g : Nat → Nat} {n : Nat} (V : pf_V g n) {i : Nat} (hi : i < n) : ∃ m, m ≤ n ∧ pf_E g i m := by
  have key : ∀ j, i + j ≤ n → (∀ l, i ≤ l → l ≤ i + j → pf_D g i ≤ pf_D g l) ∨ ∃ m, m ≤ n ∧ pf_E g i m := by
    intro j
    induction j with
    | zero =>
      intro _
      refine Or.inl fun l h1 h2 => ?_
      have : l = i := by omega
      rw [this]; exact Nat.le_refl _
    | succ j ih =>
      intro hj
      rcases ih (by omega) with h | h
      · have e : pf_D g (i + j + 1) = pf_D g (i + j) + g (i + j) - 1 := rfl
        have h1 := h (i + j) (by omega) (by omega)
        have h0 := V.1 i hi
        by_cases c : pf_D g i ≤ pf_D g (i + j + 1)
        · refine Or.inl fun l a b => ?_
          by_cases q : l = i + j + 1
          · rw [q]; exact c
          · exact h l a (by omega)
        · refine Or.inr ⟨i + j + 1, by omega, by omega, by omega, fun l a b => h l a (by omega)⟩
      · exact Or.inr h
  obtain ⟨j, hj⟩ : ∃ j, i + j = n := ⟨n - i, by omega⟩
  rcases key j (by omega) with h | h
  · have := h n (by omega) (by omega)
    have h0 := V.1 i hi
    rw [V.2] at this
    omega
  · exact h
theorem pf_uq {g : Nat → Nat} {i m m' : Nat} (h : pf_E g i m) (h' : pf_E g i m') : m = m' := by
  rcases Nat.lt_trichotomy m m' with c | c | c
  · have := h'.2.2 m (by have := h.1; omega) c
    have := h.2.1
    omega
  · exact c
  · have := h.2.2 m' (by have := h'.1; omega) c
    have := h'.2.1
    omega
/-- m is where part j + 1 of token i begins -/
def pf_C (g : Nat → Nat) (i : Nat) : Nat → Nat → Prop
  | 0, m => m = i + 1
  | j + 1, m => ∃ m', pf_C g i j m' ∧ pf_E g m' m
theorem pf_C_inv {g : Nat → Nat} {n : Nat} (V : pf_V g n) {i : Nat} (hi : i < n) : ∀ j m, j ≤ g i → pf_C g i j m → i < m ∧ m ≤ n ∧ pf_D g m + j + 1 = pf_D g i + g i ∧ ∀ l, i < l → l < m → pf_D g i + g i ≤ pf_D g l + j := by
  intro j
  induction j with
  | zero =>
    intro m _ h
    have h : m = i + 1 := h
    subst h
    have h0 := V.1 i hi
    have e : pf_D g (i + 1) = pf_D g i + g i - 1 := rfl
    refine ⟨by omega, by omega, by omega, fun l a b => ?_⟩
    omega
  | succ j ih =>
    intro m hj h
    obtain ⟨m', hm', e1, e2, e3⟩ := h
    obtain ⟨a1, a2, a3, a4⟩ := ih m' (by omega) hm'
    have hn : m ≤ n := by
      by_cases c : m ≤ n
      · exact c
      · have := e3 n a2 (by omega)
        have := V.2
        omega
    refine ⟨by omega, hn, by omega, fun l p q => ?_⟩
    by_cases c : l < m'
    · have := a4 l p c
      omega
    · have := e3 l (by omega) q
      omega
/-- a part's place lies inside -/
theorem pf_C_in {g : Nat → Nat} {n : Nat} (V : pf_V g n) {i : Nat} (hi : i < n) {j m : Nat} (hj : j < g i) (h : pf_C g i j m) : m < n := by
  obtain ⟨a1, a2, a3, _⟩ := pf_C_inv V hi j m (by omega) h
  have h0 := V.1 i hi
  by_cases c : m = n
  · rw [c, V.2] at a3
    omega
  · omega
theorem pf_C_end {g : Nat → Nat} {n : Nat} (V : pf_V g n) {i : Nat} (hi : i < n) {m : Nat} (h : pf_C g i (g i) m) : pf_E g i m := by
  obtain ⟨a1, a2, a3, a4⟩ := pf_C_inv V hi (g i) m (Nat.le_refl _) h
  have h0 := V.1 i hi
  refine ⟨a1, by omega, fun l p q => ?_⟩
  by_cases c : l = i
  · rw [c]; exact Nat.le_refl _
  · have := a4 l (by omega) q
    omega
theorem pf_D_le {g : Nat → Nat} (hg : ∀ i, g i ≤ 3) : ∀ i, pf_D g i ≤ 2 * i + 1 := by
  intro i
  induction i with
  | zero => exact Nat.le_refl _
  | succ i ih =>
    have e : pf_D g (i + 1) = pf_D g i + g i - 1 := rfl
    have := hg i
    omega
/-- the number of parts of a kind -/
def bl_ar (k : Int32) : Nat := if k = 0 ∨ k = 1 ∨ k = 18 then 0 else if k = 8 then 3 else if k = 2 ∨ k = 4 ∨ k = 6 ∨ k = 12 ∨ k = 13 ∨ k = 16 ∨ k = 17 then 1 else 2
theorem bl_ar_le (k : Int32) : bl_ar k ≤ 3 := by
  unfold bl_ar
  split
  · omega
  · split
    · omega
    · split <;> omega
/-- where region r begins in the reference (0: the draft; k + 1: function k); in the component it begins at 48 r -/
def bl_yb (r : Nat) : Nat := if r = 0 then 192 else 48 * r - 48
theorem bl_yb_lt {r i : Nat} (hr : r < 5) (hi : i < 48) : bl_yb r + i < 240 := by
  unfold bl_yb
  split <;> omega
theorem bl_yb_le {r i : Nat} (hr : r < 5) (hi : i ≤ 48) : bl_yb r + i ≤ 240 := by
  unfold bl_yb
  split <;> omega
/-- two regions don't meet -/
theorem bl_yb_ne {r r' i i' : Nat} (hr : r < 5) (hr' : r' < 5) (h : r ≠ r') (hi : i < 48) (hi' : i' < 48) : bl_yb r + i ≠ bl_yb r' + i' := by
  unfold bl_yb
  split <;> split <;> omega
theorem pf_D_cg {g g' : Nat → Nat} : ∀ i, (∀ j, j < i → g' j = g j) → pf_D g' i = pf_D g i := by
  intro i
  induction i with
  | zero => intro _; rfl
  | succ i ih =>
    intro h
    show pf_D g' i + g' i - 1 = pf_D g i + g i - 1
    rw [ih (fun j hj => h j (by omega)), h i (by omega)]
theorem pf_V_cg {g g' : Nat → Nat} {n : Nat} (h : ∀ j, j < n → g' j = g j) (V : pf_V g n) : pf_V g' n := by
  refine ⟨fun i hi => ?_, ?_⟩
  · rw [pf_D_cg i (fun j hj => h j (by omega))]; exact V.1 i hi
  · rw [pf_D_cg n h]; exact V.2
theorem pf_E_le {g : Nat → Nat} {n i m : Nat} (V : pf_V g n) (hi : i < n) (h : pf_E g i m) : m ≤ n := by
  by_cases c : m ≤ n
  · exact c
  · have := h.2.2 n (by omega) (by omega)
    have := V.1 i hi
    have := V.2
    omega
theorem pf_E_cg {g g' : Nat → Nat} {n i m : Nat} (h : ∀ j, j < n → g' j = g j) (V : pf_V g n) (hi : i < n) (E : pf_E g i m) : pf_E g' i m := by
  have hm := pf_E_le V hi E
  have q : ∀ l, l ≤ n → pf_D g' l = pf_D g l := fun l hl => pf_D_cg l (fun j hj => h j (by omega))
  refine ⟨E.1, ?_, fun j a b => ?_⟩
  · rw [q m hm, q i (by omega)]; exact E.2.1
  · rw [q i (by omega), q j (by omega)]; exact E.2.2 j a b
