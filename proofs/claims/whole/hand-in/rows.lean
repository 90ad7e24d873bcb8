section
/-! rows pasted from the kit (kit/rows/PURE-ROWS): stores, numbers, branches -/
theorem pk_us {f : Nat → Int32} {k : Nat} {x : Int32} : upd f k x k = x := if_pos rfl
theorem pk_un {f : Nat → Int32} {k j : Nat} {x : Int32} (h : j ≠ k) : upd f k x j = f j := if_neg h
theorem pk_uLs {f : Nat → Int64} {k : Nat} {x : Int64} : vp_updL f k x k = x := if_pos rfl
theorem pk_uLn {f : Nat → Int64} {k j : Nat} {x : Int64} (h : j ≠ k) : vp_updL f k x j = f j := if_neg h
theorem pk_sub {a b : Nat} (h : b ≤ a) : nI a - nI b = nI (a - b) := by
  obtain ⟨c, rfl⟩ : ∃ c, a = c + b := ⟨a - b, by omega⟩
  rw [← nI_add, Int32.add_sub_cancel, Nat.add_sub_cancel]
theorem pk_m1 (n : Nat) : nI (n + 1) + (-1) = nI n := by
  rw [← nI_1, Int32.add_assoc, show (1 : Int32) + (-1) = 0 from rfl, Int32.add_zero]
theorem pk_mul (a b : Nat) : nI a * nI b = nI (a * b) := (Int32.ofNat_mul a b).symm
theorem pk_ix (x : Int32) {n : Nat} (hn : n < 2 ^ 31) : x < 0 ∨ nI n ≤ x ∨ ∃ j : Nat, j < n ∧ x = nI j := by
  by_cases h : x < 0
  · exact Or.inl h
  · obtain ⟨j, hj, rfl⟩ := nI_of h
    by_cases h2 : j < n
    · exact Or.inr (Or.inr ⟨j, h2, rfl⟩)
    · exact Or.inr (Or.inl (nI_le (by omega) hj))
theorem pk_le {x y : Int32} {A B : Prop} (a b : Nat) (f : a ≤ b → A) (g : b < a → B) (hx : x = nI a := by rfl) (hy : y = nI b := by rfl) (ha : a < 2 ^ 31 := by omega) (hb : b < 2 ^ 31 := by omega) : (x ≤ y → A) ∧ (¬ x ≤ y → B) := by
  subst hx hy
  rw [nI_leI ha hb]
  exact ⟨f, fun z => g (by omega)⟩
theorem pk_lt {x y : Int32} {A B : Prop} (a b : Nat) (f : a < b → A) (g : b ≤ a → B) (hx : x = nI a := by rfl) (hy : y = nI b := by rfl) (ha : a < 2 ^ 31 := by omega) (hb : b < 2 ^ 31 := by omega) : (x < y → A) ∧ (¬ x < y → B) := by
  subst hx hy
  rw [nI_ltI ha hb]
  exact ⟨f, fun z => g (by omega)⟩
theorem pk_eq {x y : Int32} {A B : Prop} (a b : Nat) (f : a = b → A) (g : a ≠ b → B) (hx : x = nI a := by rfl) (hy : y = nI b := by rfl) (ha : a < 2 ^ 31 := by omega) (hb : b < 2 ^ 31 := by omega) : (x = y → A) ∧ (¬ x = y → B) := by
  subst hx hy
  rw [nI_eq ha hb]
  exact ⟨f, g⟩
theorem pk_in {x : Int32} (n N : Nat) (h : n < N) (hx : x = nI n := by rfl) (hN : N < 2 ^ 31 := by omega) : vp_in x N := by
  subst hx
  exact vp_in_nI h hN
theorem pk_cl {x : Int32} (n : Nat) (hx : x = nI n := by rfl) (h : n < 2 ^ 31 := by omega) : x.toNatClampNeg = n := by
  subst hx
  exact nI_clamp h
theorem pk_lT {n : Nat} (h : n < 2 ^ 63) : (lN n).toInt = (n : Int) := lg_ofNat_toInt h
theorem pk_lLT {a b : Nat} (ha : a < 2 ^ 63) (hb : b < 2 ^ 63) : lN a < lN b ↔ a < b := by
  rw [Int64.lt_iff_toInt_lt, pk_lT ha, pk_lT hb]; omega
theorem pk_lLE {a b : Nat} (ha : a < 2 ^ 63) (hb : b < 2 ^ 63) : lN a ≤ lN b ↔ a ≤ b := by
  rw [Int64.le_iff_toInt_le, pk_lT ha, pk_lT hb]; omega
theorem pk_lEQ {a b : Nat} (ha : a < 2 ^ 63) (hb : b < 2 ^ 63) : lN a = lN b ↔ a = b := by
  rw [← Int64.toInt_inj, pk_lT ha, pk_lT hb]; omega
theorem pk_least (P : Nat → Prop) (h : ∃ k, P k) : ∃ k, P k ∧ ∀ j, j < k → ¬ P j := by
  obtain ⟨k, hk⟩ := h
  induction k using Nat.strongRecOn with
  | ind k ih =>
    by_cases e : ∃ j, j < k ∧ P j
    · obtain ⟨j, hj, pj⟩ := e
      exact ih j hj pj
    · exact ⟨k, hk, fun j hj pj => e ⟨j, hj, pj⟩⟩
/-! numbers of this claim: values of the component (one long) against values of the reference (kind and int) -/
/-- a value: an int, closure n below cl, or void -/
def bl_vr (cl : Nat) (x : Int64) (k v : Int32) : Prop :=
  (k = 0 ∧ x = v.toInt64) ∨ (k = 1 ∧ ∃ n, n < cl ∧ v = nI n ∧ x = 20000000000 + lN n) ∨ (k = 2 ∧ x = 10000000000)
theorem bl_vr_up {cl cl' : Nat} {x : Int64} {k v : Int32} (hc : cl ≤ cl') (h : bl_vr cl x k v) : bl_vr cl' x k v := by
  rcases h with h | ⟨hk, n, hn, h⟩ | h
  · exact Or.inl h
  · exact Or.inr (Or.inl ⟨hk, n, by omega, h⟩)
  · exact Or.inr (Or.inr h)
theorem bl_c2 : (20000000000 : Int64).toInt = 20000000000 := by decide
theorem bl_c1 : (10000000000 : Int64).toInt = 10000000000 := by decide
theorem bl_int_lo (v : Int32) : -2147483648 ≤ v.toInt := by
  have := Int32.le_toInt v; simpa using this
theorem bl_int_hi (v : Int32) : v.toInt < 2147483648 := by
  have := Int32.toInt_lt v; simpa using this
theorem bl_cn {n : Nat} (h : n < 1000) : (20000000000 + lN n).toInt = 20000000000 + (n : Int) := by
  rw [Int64.toInt_add, bl_c2, lN_toInt (by omega)]
  exact Int.bmod_eq_of_le (by omega) (by omega)
theorem bl_int_nc (v : Int32) : ¬ (20000000000 : Int64) ≤ v.toInt64 := by
  rw [Int64.le_iff_toInt_le, bl_c2, Int32.toInt_toInt64]
  have := bl_int_hi v
  omega
theorem bl_int_nn (v : Int32) : ¬ v.toInt64 = (10000000000 : Int64) := by
  intro h
  have h := congrArg Int64.toInt h
  rw [bl_c1, Int32.toInt_toInt64] at h
  have := bl_int_hi v
  omega
theorem bl_cl_c {n : Nat} (h : n < 1000) : (20000000000 : Int64) ≤ 20000000000 + lN n := by
  rw [Int64.le_iff_toInt_le, bl_c2, bl_cn h]
  omega
theorem bl_cl_nn {n : Nat} (h : n < 1000) : ¬ 20000000000 + lN n = (10000000000 : Int64) := by
  intro h'
  have h' := congrArg Int64.toInt h'
  rw [bl_c1, bl_cn h] at h'
  omega
theorem bl_cl_n0 {n : Nat} (h : n < 1000) : ¬ 20000000000 + lN n = (0 : Int64) := by
  intro h'
  have h' := congrArg Int64.toInt h'
  rw [bl_cn h] at h'
  have : (0 : Int64).toInt = 0 := by decide
  omega
theorem bl_vd_nc : ¬ (20000000000 : Int64) ≤ 10000000000 := by decide
theorem bl_cl_sub (n : Nat) : (20000000000 + lN n - 20000000000).toInt32 = nI n := by
  rw [Int64.toInt32_sub, Int64.toInt32_add, lN_i]
  grind
theorem bl_int_0 (v : Int32) : v.toInt64 = 0 ↔ v = 0 := by
  constructor
  · intro h
    have h := congrArg Int64.toInt32 h
    rw [Int32.toInt32_toInt64] at h
    exact h
  · rintro rfl
    rfl
/-- closure or not, seen on both sides -/
theorem bl_vr_c {cl : Nat} {x : Int64} {k v : Int32} (hcl : cl < 1000) (h : bl_vr cl x k v) : ((20000000000 : Int64) ≤ x ↔ k = 1) := by
  rcases h with ⟨rfl, rfl⟩ | ⟨rfl, n, hn, rfl, rfl⟩ | ⟨rfl, rfl⟩
  · exact ⟨fun h => absurd h (bl_int_nc v), fun h => absurd h (by decide)⟩
  · exact ⟨fun _ => rfl, fun _ => bl_cl_c (by omega)⟩
  · exact ⟨fun h => absurd h bl_vd_nc, fun h => absurd h (by decide)⟩
theorem bl_vr_n {cl : Nat} {x : Int64} {k v : Int32} (hcl : cl < 1000) (h : bl_vr cl x k v) : (x = 10000000000 ↔ k = 2) := by
  rcases h with ⟨rfl, rfl⟩ | ⟨rfl, n, hn, rfl, rfl⟩ | ⟨rfl, rfl⟩
  · exact ⟨fun h => absurd h (bl_int_nn v), fun h => absurd h (by decide)⟩
  · exact ⟨fun h => absurd h (bl_cl_nn (by omega)), fun h => absurd h (by decide)⟩
  · exact ⟨fun _ => rfl, fun _ => rfl⟩
/-- what a symbol's value or what is given may be where it is not void -/
def bl_vg (cl : Nat) (x : Int64) (k v : Int32) : Prop :=
  (k = 0 ∧ x = v.toInt64) ∨ (k = 1 ∧ ∃ n, n < cl ∧ v = nI n ∧ x = 20000000000 + lN n)
theorem bl_vg_up {cl cl' : Nat} {x : Int64} {k v : Int32} (hc : cl ≤ cl') (h : bl_vg cl x k v) : bl_vg cl' x k v := by
  rcases h with h | ⟨hk, n, hn, h⟩
  · exact Or.inl h
  · exact Or.inr ⟨hk, n, by omega, h⟩
theorem bl_vg_r {cl : Nat} {x : Int64} {k v : Int32} (h : bl_vg cl x k v) : bl_vr cl x k v := by
  rcases h with h | h
  · exact Or.inl h
  · exact Or.inr (Or.inl h)
theorem bl_vr_g {cl : Nat} {x : Int64} {k v : Int32} (h : bl_vr cl x k v) (hk : ¬ k = 2) : bl_vg cl x k v := by
  rcases h with h | h | h
  · exact Or.inl h
  · exact Or.inr h
  · exact absurd h.1 hk
/-- the test of IF -/
theorem bl_vg_0 {cl : Nat} {x : Int64} {k v : Int32} (hcl : cl < 1000) (h : bl_vg cl x k v) : (x = 0 ↔ k = 0 ∧ v = 0) := by
  rcases h with ⟨rfl, rfl⟩ | ⟨rfl, n, hn, rfl, rfl⟩
  · rw [bl_int_0]
    exact ⟨fun h => ⟨rfl, h⟩, fun h => h.2⟩
  · exact ⟨fun h => absurd h (bl_cl_n0 (by omega)), fun h => absurd h.1 (by decide)⟩
/-- a scope below n, or none -/
def bl_sc (n : Nat) (x : Int32) : Prop := x = -1 ∨ ∃ j, j < n ∧ x = nI j
theorem bl_sc_up {n n' : Nat} {x : Int32} (hn : n ≤ n') (h : bl_sc n x) : bl_sc n' x := by
  rcases h with h | ⟨j, hj, h⟩
  · exact Or.inl h
  · exact Or.inr ⟨j, by omega, h⟩
theorem bl_fill (f : Nat → Int32) (c : Int32) (j : Nat) : upd (fun i => if i < j then c else f i) j c = fun i => if i < j + 1 then c else f i := by
  funext i
  unfold upd
  by_cases e : i = j
  · rw [if_pos e, if_pos (by omega)]
  · rw [if_neg e]
    dsimp only
    by_cases l : i < j
    · rw [if_pos l, if_pos (by omega)]
    · rw [if_neg l, if_neg (by omega)]
theorem bl_fillL (f : Nat → Int64) (c : Int64) (j : Nat) : vp_updL (fun i => if i < j then c else f i) j c = fun i => if i < j + 1 then c else f i := by
  funext i
  unfold vp_updL
  by_cases e : i = j
  · rw [if_pos e, if_pos (by omega)]
  · rw [if_neg e]
    dsimp only
    by_cases l : i < j
    · rw [if_pos l, if_pos (by omega)]
    · rw [if_neg l, if_neg (by omega)]
theorem bl_fill0 {α : Type} (f : Nat → α) (c : α) : (fun i => if i < 0 then c else f i) = f := by
  funext i
  rw [if_neg (by omega)]
theorem bl_nb0 : vp_nar .boolean 0 = 0 := by decide
theorem bl_nb1 : vp_nar .boolean 1 = 1 := by decide
end
section
/-! lists of tokens, each ahead of its parts: g i is the number of parts of token i of a region; D i what is due before token i -/
def pf_D (g : Nat → Nat) : Nat → Nat
  | 0 => 1
  | i + 1 => pf_D g i + g i - 1
/-- the first n tokens are one expression -/
def pf_V (g : Nat → Nat) (n : Nat) : Prop := (∀ i, i < n → 0 < pf_D g i) ∧ pf_D g n = 0
/-- the expression at i ends before m -/
def pf_E (g : Nat → Nat) (i m : Nat) : Prop := i < m ∧ pf_D g m + 1 = pf_D g i ∧ ∀ j, i ≤ j → j < m → pf_D g i ≤ pf_D g j
theorem pf_ex {g : Nat → Nat} {n : Nat} (V : pf_V g n) {i : Nat} (hi : i < n) : ∃ m, m ≤ n ∧ pf_E g i m := by
  have key : ∀ j, i + j ≤ n → (∀ l, i ≤ l → l ≤ i + j → pf_D g i ≤ pf_D g l) ∨ ∃ m, m ≤ n ∧ pf_E g i m := by
    intro j
    induction j with
    | zero =>
      intro _
      refine Or.inl fun l h1 h2 => ?_
      have : l = i := by omega
      rw [this]; exact Nat.le_refl _
    | succ j ih =>
      intro hj
      rcases ih (by omega) with h | h
      · have e : pf_D g (i + j + 1) = pf_D g (i + j) + g (i + j) - 1 := rfl
        have h1 := h (i + j) (by omega) (by omega)
        have h0 := V.1 i hi
        by_cases c : pf_D g i ≤ pf_D g (i + j + 1)
        · refine Or.inl fun l a b => ?_
          by_cases q : l = i + j + 1
          · rw [q]; exact c
          · exact h l a (by omega)
        · refine Or.inr ⟨i + j + 1, by omega, by omega, by omega, fun l a b => h l a (by omega)⟩
      · exact Or.inr h
  obtain ⟨j, hj⟩ : ∃ j, i + j = n := ⟨n - i, by omega⟩
  rcases key j (by omega) with h | h
  · have := h n (by omega) (by omega)
    have h0 := V.1 i hi
    rw [V.2] at this
    omega
  · exact h
theorem pf_uq {g : Nat → Nat} {i m m' : Nat} (h : pf_E g i m) (h' : pf_E g i m') : m = m' := by
  rcases Nat.lt_trichotomy m m' with c | c | c
  · have := h'.2.2 m (by have := h.1; omega) c
    have := h.2.1
    omega
  · exact c
  · have := h.2.2 m' (by have := h'.1; omega) c
    have := h'.2.1
    omega
/-- m is where part j + 1 of token i begins -/
def pf_C (g : Nat → Nat) (i : Nat) : Nat → Nat → Prop
  | 0, m => m = i + 1
  | j + 1, m => ∃ m', pf_C g i j m' ∧ pf_E g m' m
theorem pf_C_inv {g : Nat → Nat} {n : Nat} (V : pf_V g n) {i : Nat} (hi : i < n) : ∀ j m, j ≤ g i → pf_C g i j m → i < m ∧ m ≤ n ∧ pf_D g m + j + 1 = pf_D g i + g i ∧ ∀ l, i < l → l < m → pf_D g i + g i ≤ pf_D g l + j := by
  intro j
  induction j with
  | zero =>
    intro m _ h
    have h : m = i + 1 := h
    subst h
    have h0 := V.1 i hi
    have e : pf_D g (i + 1) = pf_D g i + g i - 1 := rfl
    refine ⟨by omega, by omega, by omega, fun l a b => ?_⟩
    omega
  | succ j ih =>
    intro m hj h
    obtain ⟨m', hm', e1, e2, e3⟩ := h
    obtain ⟨a1, a2, a3, a4⟩ := ih m' (by omega) hm'
    have hn : m ≤ n := by
      by_cases c : m ≤ n
      · exact c
      · have := e3 n a2 (by omega)
        have := V.2
        omega
    refine ⟨by omega, hn, by omega, fun l p q => ?_⟩
    by_cases c : l < m'
    · have := a4 l p c
      omega
    · have := e3 l (by omega) q
      omega
/-- a part's place lies inside -/
theorem pf_C_in {g : Nat → Nat} {n : Nat} (V : pf_V g n) {i : Nat} (hi : i < n) {j m : Nat} (hj : j < g i) (h : pf_C g i j m) : m < n := by
  obtain ⟨a1, a2, a3, _⟩ := pf_C_inv V hi j m (by omega) h
  have h0 := V.1 i hi
  by_cases c : m = n
  · rw [c, V.2] at a3
    omega
  · omega
theorem pf_C_end {g : Nat → Nat} {n : Nat} (V : pf_V g n) {i : Nat} (hi : i < n) {m : Nat} (h : pf_C g i (g i) m) : pf_E g i m := by
  obtain ⟨a1, a2, a3, a4⟩ := pf_C_inv V hi (g i) m (Nat.le_refl _) h
  have h0 := V.1 i hi
  refine ⟨a1, by omega, fun l p q => ?_⟩
  by_cases c : l = i
  · rw [c]; exact Nat.le_refl _
  · have := a4 l (by omega) q
    omega
theorem pf_D_le {g : Nat → Nat} (hg : ∀ i, g i ≤ 3) : ∀ i, pf_D g i ≤ 2 * i + 1 := by
  intro i
  induction i with
  | zero => exact Nat.le_refl _
  | succ i ih =>
    have e : pf_D g (i + 1) = pf_D g i + g i - 1 := rfl
    have := hg i
    omega
/-- the number of parts of a kind -/
def bl_ar (k : Int32) : Nat := if k = 0 ∨ k = 1 ∨ k = 18 then 0 else if k = 8 then 3 else if k = 2 ∨ k = 4 ∨ k = 6 ∨ k = 12 ∨ k = 13 ∨ k = 16 ∨ k = 17 then 1 else 2
theorem bl_ar_le (k : Int32) : bl_ar k ≤ 3 := by
  unfold bl_ar
  split
  · omega
  · split
    · omega
    · split <;> omega
/-- where region r begins in the reference (0: the draft; k + 1: function k); in the component it begins at 48 r -/
def bl_yb (r : Nat) : Nat := if r = 0 then 192 else 48 * r - 48
theorem bl_yb_lt {r i : Nat} (hr : r < 5) (hi : i < 48) : bl_yb r + i < 240 := by
  unfold bl_yb
  split <;> omega
theorem bl_yb_le {r i : Nat} (hr : r < 5) (hi : i ≤ 48) : bl_yb r + i ≤ 240 := by
  unfold bl_yb
  split <;> omega
/-- two regions don't meet -/
theorem bl_yb_ne {r r' i i' : Nat} (hr : r < 5) (hr' : r' < 5) (h : r ≠ r') (hi : i < 48) (hi' : i' < 48) : bl_yb r + i ≠ bl_yb r' + i' := by
  unfold bl_yb
  split <;> split <;> omega
theorem pf_D_cg {g g' : Nat → Nat} : ∀ i, (∀ j, j < i → g' j = g j) → pf_D g' i = pf_D g i := by
  intro i
  induction i with
  | zero => intro _; rfl
  | succ i ih =>
    intro h
    show pf_D g' i + g' i - 1 = pf_D g i + g i - 1
    rw [ih (fun j hj => h j (by omega)), h i (by omega)]
theorem pf_V_cg {g g' : Nat → Nat} {n : Nat} (h : ∀ j, j < n → g' j = g j) (V : pf_V g n) : pf_V g' n := by
  refine ⟨fun i hi => ?_, ?_⟩
  · rw [pf_D_cg i (fun j hj => h j (by omega))]; exact V.1 i hi
  · rw [pf_D_cg n h]; exact V.2
theorem pf_E_le {g : Nat → Nat} {n i m : Nat} (V : pf_V g n) (hi : i < n) (h : pf_E g i m) : m ≤ n := by
  by_cases c : m ≤ n
  · exact c
  · have := h.2.2 n (by omega) (by omega)
    have := V.1 i hi
    have := V.2
    omega
theorem pf_E_cg {g g' : Nat → Nat} {n i m : Nat} (h : ∀ j, j < n → g' j = g j) (V : pf_V g n) (hi : i < n) (E : pf_E g i m) : pf_E g' i m := by
  have hm := pf_E_le V hi E
  have q : ∀ l, l ≤ n → pf_D g' l = pf_D g l := fun l hl => pf_D_cg l (fun j hj => h j (by omega))
  refine ⟨E.1, ?_, fun j a b => ?_⟩
  · rw [q m hm, q i (by omega)]; exact E.2.1
  · rw [q i (by omega), q j (by omega)]; exact E.2.2 j a b
end
section
/-! the relation within a run: code, scopes, closures, places, frames -/
/-- a frame of the component: code, scope, buffer, done, value, ending, keptPlace, keptValue -/
abbrev bl_XF : Type := Int32 × Int32 × Int32 × Int32 × Int64 × Int32 × Int32 × Int64
/-- a frame of the reference: token, phase, env, keptKind, keptValue, boundPlace, oldKind, oldValue, oldBuffer -/
abbrev bl_YF : Type := Int32 × Int32 × Int32 × Int32 × Int32 × Int32 × Int32 × Int32 × Int32
/-- a token that the draft may hold -/
def bl_tk (k v : Int32) : Prop :=
  (k = 0 ∨ k = 5 ∨ k = 7 ∨ k = 8 ∨ k = 9 ∨ k = 10 ∨ k = 11 ∨ k = 14 ∨ k = 15 ∨ k = 18)
  ∨ ((k = 1 ∨ k = 2 ∨ k = 3 ∨ k = 4 ∨ k = 17) ∧ ∃ j, j < 8 ∧ v = nI j)
  ∨ ((k = 6 ∨ k = 12 ∨ k = 13) ∧ ∃ j, j < 4 ∧ v = nI j)
  ∨ (k = 16 ∧ ∃ j, j < 3 ∧ v = nI j)
def bl_rg (kX : Nat → Int32) (r : Nat) : Nat → Nat := fun i => bl_ar (kX (48 * r + i))
/-- the code on both sides: region r of length L r (0: none) -/
def bl_Ko (L : Nat → Nat) (kX vX kY nY : Nat → Int32) : Prop :=
  (∀ r, r < 5 → L r ≤ 48) ∧ (∀ r, r < 5 → ∀ i, i < 48 → kY (bl_yb r + i) = kX (48 * r + i) ∧ nY (bl_yb r + i) = vX (48 * r + i))
  ∧ (∀ p, p < 240 → bl_tk (kX p) (vX p))
/-- region r is an expression, and the reference's table has its ends -/
def bl_Re (L : Nat → Nat) (kX en : Nat → Int32) (r : Nat) : Prop :=
  pf_V (bl_rg kX r) (L r) ∧ ∀ i, i < L r → ∃ m, pf_E (bl_rg kX r) i m ∧ en (bl_yb r + i) = nI (bl_yb r + m)
/-- all that stands still in a run -/
def bl_Cf (L : Nat → Nat) (dl : Int32) (kX vX df pr sp kY nY en ln : Nat → Int32) : Prop :=
  bl_Ko L kX vX kY nY ∧ (∀ r, r < 5 → 0 < L r → bl_Re L kX en r)
  ∧ (∀ k, k < 4 → (df k = 0 ∧ L (k + 1) = 0 ∧ ln k = 0) ∨ (df k = 1 ∧ 0 < L (k + 1) ∧ ln k = nI (L (k + 1))))
  ∧ (∀ k, k < 4 → ∃ j, j < 8 ∧ pr k = nI j) ∧ (dl = nI (L 0) ∧ ln 4 = nI (L 0))
theorem bl_pX {L : Nat → Nat} {kX vX kY nY : Nat → Int32} (K : bl_Ko L kX vX kY nY) {r t : Nat} (hr : r < 5) (ht : t < L r) : 48 * r + t < 240 := by
  have := K.1 r hr
  omega
theorem bl_pY {L : Nat → Nat} {kX vX kY nY : Nat → Int32} (K : bl_Ko L kX vX kY nY) {r t : Nat} (hr : r < 5) (ht : t < L r) : bl_yb r + t < 240 := by
  have := K.1 r hr
  exact bl_yb_lt hr (by omega)
theorem bl_kY {L : Nat → Nat} {kX vX kY nY : Nat → Int32} (K : bl_Ko L kX vX kY nY) {r t : Nat} (hr : r < 5) (ht : t < L r) : kY (bl_yb r + t) = kX (48 * r + t) ∧ nY (bl_yb r + t) = vX (48 * r + t) := by
  have := K.1 r hr
  exact K.2.1 r hr t (by omega)
theorem bl_p0 {L : Nat → Nat} {kX en : Nat → Int32} {r t : Nat} (R : bl_Re L kX en r) (ht : t < L r) (ha : 0 < bl_ar (kX (48 * r + t))) : t + 1 < L r :=
  pf_C_in (j := 0) R.1 ht ha rfl
theorem bl_p1 {L : Nat → Nat} {kX en : Nat → Int32} {r t : Nat} (R : bl_Re L kX en r) (ht : t < L r) (ha : 1 < bl_ar (kX (48 * r + t))) : ∃ m, m < L r ∧ pf_E (bl_rg kX r) (t + 1) m ∧ en (bl_yb r + (t + 1)) = nI (bl_yb r + m) := by
  have h0 := bl_p0 R ht (by omega)
  obtain ⟨m, hm, he⟩ := R.2 (t + 1) h0
  exact ⟨m, pf_C_in (j := 1) R.1 ht ha ⟨t + 1, rfl, hm⟩, hm, he⟩
theorem bl_p2 {L : Nat → Nat} {kX en : Nat → Int32} {r t : Nat} (R : bl_Re L kX en r) (ht : t < L r) (ha : 2 < bl_ar (kX (48 * r + t))) : ∃ m m', m < L r ∧ m' < L r ∧ pf_E (bl_rg kX r) (t + 1) m ∧ en (bl_yb r + (t + 1)) = nI (bl_yb r + m) ∧ pf_E (bl_rg kX r) m m' ∧ en (bl_yb r + m) = nI (bl_yb r + m') := by
  obtain ⟨m, hl, hm, he⟩ := bl_p1 R ht (by omega)
  obtain ⟨m', hm', he'⟩ := R.2 m hl
  exact ⟨m, m', hl, pf_C_in (j := 2) R.1 ht ha ⟨m, ⟨t + 1, rfl, hm⟩, hm'⟩, hm, he, hm', he'⟩
/-- the scopes below sc: none has a special symbol -/
def bl_So (sp ss so po : Nat → Int32) (sc : Nat) : Prop :=
  ∀ n, n < sc → bl_sc n (so n) ∧ po n = nI (32 + n) ∧ ∃ j, j < 8 ∧ ss n = nI j ∧ sp j = 0
/-- the closures below cl -/
def bl_Co (kX vX : Nat → Int32) (L : Nat → Nat) (cc cs cy cb : Nat → Int32) (sc cl : Nat) : Prop :=
  ∀ n, n < cl → bl_sc sc (cs n) ∧ ∃ r t, r < 5 ∧ t < L r ∧ cc n = nI (48 * r + t) ∧ kX (48 * r + t) = 4 ∧ cy n = vX (48 * r + t) ∧ cb n = nI (bl_yb r + (t + 1))
/-- the places of symbols, and those of scopes -/
def bl_Po (cl : Nat) (pl : Nat → Int64) (pk pv : Nat → Int32) : Prop := ∀ i, i < 32 → bl_vr cl (pl i) (pk i) (pv i)
def bl_Vo (cl sc : Nat) (sv : Nat → Int64) (pk pv : Nat → Int32) : Prop := ∀ n, n < sc → bl_vr cl (sv n) (pk (32 + n)) (pv (32 + n))
/-- a CATCH of tag t is among the first d frames -/
def bl_hc (kX vX : Nat → Int32) (x : Nat → bl_XF) (d t : Nat) : Prop := ∃ i p, i < d ∧ p < 240 ∧ (x i).1 = nI p ∧ kX p = 12 ∧ vX p = nI t
def bl_hy (kY nY : Nat → Int32) (y : Nat → bl_YF) (h t : Nat) : Prop := ∃ i p, i < h ∧ p < 240 ∧ (y i).1 = nI p ∧ kY p = 12 ∧ nY p = nI t
/-- how an expression ends when it gives nothing: an error's code, or a throw -/
def bl_er (cl : Nat) (hc : Nat → Prop) (e : Int32) (x : Int64) (tg cd k v : Int32) : Prop :=
  (∃ c, 1 ≤ c ∧ c ≤ 4 ∧ e = nI c ∧ tg = -1 ∧ cd = nI c) ∨ (∃ t, t < 4 ∧ e = nI (16 + t) ∧ tg = nI t ∧ cd = 0 ∧ hc t ∧ bl_vg cl x k v)
/-- what a frame has bound -/
def bl_bd (cl : Nat) (kp : Int32) (kv : Int64) (bp ok ov : Int32) : Prop :=
  (kp = -1 ∧ bp = -1) ∨ ∃ p, p < 32 ∧ kp = nI p ∧ bp = nI p ∧ bl_vr cl kv ok ov
/-- the phases of a frame that both sides have -/
def bl_ph (cl : Nat) (hc : Nat → Prop) (k : Int32) (e : Nat) (fv : Int64) (fe kp : Int32) (kv : Int64) (ph gk gv bp ok ov : Int32) : Prop :=
  (e = 0 ∧ ph = 0 ∧ (k = 2 ∨ k = 3 ∨ k = 5 ∨ k = 6 ∨ k = 7 ∨ k = 8 ∨ k = 9 ∨ k = 10 ∨ k = 11 ∨ k = 12 ∨ k = 13 ∨ k = 14 ∨ k = 15 ∨ k = 16 ∨ k = 17) ∧ kp = -1 ∧ bp = -1)
  ∨ (e = 1 ∧ ph = 1 ∧ (k = 3 ∨ k = 6) ∧ bl_bd cl kp kv bp ok ov)
  ∨ (e = 1 ∧ ph = 1 ∧ (k = 5 ∨ k = 9 ∨ k = 10 ∨ k = 11) ∧ kp = -1 ∧ bp = -1 ∧ bl_vg cl fv gk gv)
  ∨ (e = 2 ∧ ph = 2 ∧ k = 5 ∧ bl_bd cl kp kv bp ok ov)
  ∨ (e = 1 ∧ ph = 1 ∧ k = 15 ∧ kp = -1 ∧ bp = -1 ∧ fe = 0 ∧ bl_vg cl fv gk gv)
  ∨ (e = 1 ∧ ph = 2 ∧ k = 15 ∧ kp = -1 ∧ bp = -1 ∧ bl_er cl hc fe fv ok ov gk gv)
/-- the weight of a frame -/
def bl_wt (k : Int32) (e : Nat) : Nat := 8 - 2 * e + (if e = 0 ∨ (e = 1 ∧ k = 5) then 3001 else 0)
/-- a frame that both sides have -/
def bl_Lv (kX vX : Nat → Int32) (L : Nat → Nat) (sc cl : Nat) (hc : Nat → Prop) (f : bl_XF) (g : bl_YF) (w : Nat) (b : Int32) : Prop :=
  match f, g with
  | (fc, fs, fb, fd, fv, fe, kp, kv), (gt, ph, ge, gk, gv, bp, ok, ov, ob) =>
    ∃ r t e, r < 5 ∧ t < L r ∧ fc = nI (48 * r + t) ∧ gt = nI (bl_yb r + t) ∧ fs = ge ∧ bl_sc sc fs ∧ fb = ob ∧ fd = nI e
      ∧ w = bl_wt (kX (48 * r + t)) e ∧ b = (if kX (48 * r + t) = 16 then vX (48 * r + t) else fb)
      ∧ bl_ph cl hc (kX (48 * r + t)) e fv fe kp kv ph gk gv bp ok ov
/-- a frame that the component alone keeps: it will only be closed -/
def bl_In (kX : Nat → Int32) (L : Nat → Nat) (f : bl_XF) (b : Int32) : Prop :=
  match f with
  | (fc, _, fb, fd, _, _, kp, _) => ∃ r t, r < 5 ∧ t < L r ∧ fc = nI (48 * r + t) ∧ (kX (48 * r + t) = 7 ∨ kX (48 * r + t) = 8 ∨ kX (48 * r + t) = 14) ∧ fd = 1 ∧ kp = -1 ∧ fb = b
/-- the frames: d of the component, h of the reference; b the buffer inside, s their weight -/
def bl_St (kX vX : Nat → Int32) (L : Nat → Nat) (sc cl : Nat) (x : Nat → bl_XF) (y : Nat → bl_YF) : Nat → Nat → Int32 → Nat → Prop
  | 0, h, b, s => h = 0 ∧ b = 0 ∧ s = 0
  | d + 1, h, b, s => (∃ s', s = 6 + s' ∧ bl_In kX L (x d) b ∧ bl_St kX vX L sc cl x y d h b s')
      ∨ (∃ h' s' w, h = h' + 1 ∧ s = w + s' ∧ bl_Lv kX vX L sc cl (bl_hc kX vX x d) (x d) (y h') w b ∧ bl_St kX vX L sc cl x y d h' (x d).2.2.1 s')
theorem bl_bd_up {cl cl' : Nat} {kp : Int32} {kv : Int64} {bp ok ov : Int32} (hc : cl ≤ cl') (h : bl_bd cl kp kv bp ok ov) : bl_bd cl' kp kv bp ok ov := by
  rcases h with h | ⟨p, h1, h2, h3, h4⟩
  · exact Or.inl h
  · exact Or.inr ⟨p, h1, h2, h3, bl_vr_up hc h4⟩
theorem bl_er_up {cl cl' : Nat} {P Q : Nat → Prop} {e : Int32} {x : Int64} {tg cd k v : Int32} (hc : cl ≤ cl') (hp : ∀ t, P t → Q t) (h : bl_er cl P e x tg cd k v) : bl_er cl' Q e x tg cd k v := by
  rcases h with h | ⟨t, h1, h2, h3, h4, h5, h6⟩
  · exact Or.inl h
  · exact Or.inr ⟨t, h1, h2, h3, h4, hp t h5, bl_vg_up hc h6⟩
theorem bl_Lv_up {kX vX : Nat → Int32} {L : Nat → Nat} {sc sc' cl cl' : Nat} {P Q : Nat → Prop} {f : bl_XF} {g : bl_YF} {w : Nat} {b : Int32} (hs : sc ≤ sc') (hc : cl ≤ cl') (hp : ∀ t, P t → Q t) (h : bl_Lv kX vX L sc cl P f g w b) : bl_Lv kX vX L sc' cl' Q f g w b := by
  obtain ⟨fc, fs, fb, fd, fv, fe, kp, kv⟩ := f
  obtain ⟨gt, ph, ge, gk, gv, bp, ok, ov, ob⟩ := g
  obtain ⟨r, t, e, h1, h2, h3, h4, h5, h6, h7, h8, h9, h10, h11⟩ := h
  refine ⟨r, t, e, h1, h2, h3, h4, h5, bl_sc_up hs h6, h7, h8, h9, h10, ?_⟩
  rcases h11 with q | ⟨q1, q2, q3, q4⟩ | ⟨q1, q2, q3, q4, q5, q6⟩ | ⟨q1, q2, q3, q4⟩ | ⟨q1, q2, q3, q4, q5, q6, q7⟩ | ⟨q1, q2, q3, q4, q5, q6⟩
  · exact Or.inl q
  · exact Or.inr (Or.inl ⟨q1, q2, q3, bl_bd_up hc q4⟩)
  · exact Or.inr (Or.inr (Or.inl ⟨q1, q2, q3, q4, q5, bl_vg_up hc q6⟩))
  · exact Or.inr (Or.inr (Or.inr (Or.inl ⟨q1, q2, q3, bl_bd_up hc q4⟩)))
  · exact Or.inr (Or.inr (Or.inr (Or.inr (Or.inl ⟨q1, q2, q3, q4, q5, q6, bl_vg_up hc q7⟩))))
  · exact Or.inr (Or.inr (Or.inr (Or.inr (Or.inr ⟨q1, q2, q3, q4, q5, bl_er_up hc hp q6⟩))))
theorem bl_hc_cg {kX vX : Nat → Int32} {x x' : Nat → bl_XF} {d t : Nat} (hx : ∀ i, i < d → x' i = x i) (h : bl_hc kX vX x d t) : bl_hc kX vX x' d t := by
  obtain ⟨i, p, h1, h2, h3, h4⟩ := h
  exact ⟨i, p, h1, h2, by rw [hx i h1]; exact h3, h4⟩
theorem bl_hc_up {kX vX : Nat → Int32} {x : Nat → bl_XF} {d d' t : Nat} (hd : d ≤ d') (h : bl_hc kX vX x d t) : bl_hc kX vX x d' t := by
  obtain ⟨i, p, h1, h2⟩ := h
  exact ⟨i, p, by omega, h2⟩
/-- the frames below speak of the cells below alone -/
theorem bl_St_cg {kX vX : Nat → Int32} {L : Nat → Nat} {sc sc' cl cl' : Nat} {x x' : Nat → bl_XF} {y y' : Nat → bl_YF} (hs : sc ≤ sc') (hc : cl ≤ cl') : ∀ (d h : Nat) (b : Int32) (s : Nat), (∀ i, i < d → x' i = x i) → (∀ j, j < h → y' j = y j) → bl_St kX vX L sc cl x y d h b s → bl_St kX vX L sc' cl' x' y' d h b s := by
  intro d
  induction d with
  | zero => intro h b s _ _ H; exact H
  | succ d ih =>
    intro h b s hx hy H
    rcases H with ⟨s', e, hi, H⟩ | ⟨h', s', w, e1, e2, hl, H⟩
    · refine Or.inl ⟨s', e, ?_, ih h b s' (fun i hi => hx i (by omega)) hy H⟩
      rw [hx d (by omega)]; exact hi
    · refine Or.inr ⟨h', s', w, e1, e2, ?_, ?_⟩
      · rw [hx d (by omega), hy h' (by omega)]
        exact bl_Lv_up hs hc (fun t ht => bl_hc_cg (fun i hi => hx i (by omega)) ht) hl
      · rw [hx d (by omega)]
        exact ih h' _ s' (fun i hi => hx i (by omega)) (fun j hj => hy j (by omega)) H
theorem bl_St_le {kX vX : Nat → Int32} {L : Nat → Nat} {sc cl : Nat} {x : Nat → bl_XF} {y : Nat → bl_YF} : ∀ (d h : Nat) (b : Int32) (s : Nat), bl_St kX vX L sc cl x y d h b s → h ≤ d := by
  intro d
  induction d with
  | zero => intro h b s H; exact Nat.le_of_eq H.1
  | succ d ih =>
    intro h b s H
    rcases H with ⟨s', e, hi, H⟩ | ⟨h', s', w, e1, e2, hl, H⟩
    · have := ih _ _ _ H; omega
    · have := ih _ _ _ H; omega
theorem bl_tk16 {k v : Int32} (h : bl_tk k v) (hk : k = 16) : ∃ j, j < 3 ∧ v = nI j := by
  subst hk
  rcases h with h | h | h | h
  · exact absurd h (by decide)
  · exact absurd h.1 (by decide)
  · exact absurd h.1 (by decide)
  · exact h.2
theorem bl_tk4 {k v : Int32} (h : bl_tk k v) (hk : k = 6 ∨ k = 12 ∨ k = 13) : ∃ j, j < 4 ∧ v = nI j := by
  rcases h with h | h | h | h
  · rcases hk with rfl | rfl | rfl <;> exact absurd h (by decide)
  · rcases hk with rfl | rfl | rfl <;> exact absurd h.1 (by decide)
  · exact h.2
  · rcases hk with rfl | rfl | rfl <;> exact absurd h.1 (by decide)
theorem bl_tk8 {k v : Int32} (h : bl_tk k v) (hk : k = 1 ∨ k = 2 ∨ k = 3 ∨ k = 4 ∨ k = 17) : ∃ j, j < 8 ∧ v = nI j := by
  rcases h with h | h | h | h
  · rcases hk with rfl | rfl | rfl | rfl | rfl <;> exact absurd h (by decide)
  · exact h.2
  · rcases hk with rfl | rfl | rfl | rfl | rfl <;> exact absurd h.1 (by decide)
  · rcases hk with rfl | rfl | rfl | rfl | rfl <;> exact absurd h.1 (by decide)
theorem bl_St_b {L : Nat → Nat} {kX vX kY nY : Nat → Int32} (K : bl_Ko L kX vX kY nY) {sc cl : Nat} {x : Nat → bl_XF} {y : Nat → bl_YF} : ∀ (d h : Nat) (b : Int32) (s : Nat), bl_St kX vX L sc cl x y d h b s → ∃ j, j < 3 ∧ b = nI j := by
  intro d
  induction d with
  | zero => intro h b s H; exact ⟨0, by omega, H.2.1.trans nI_0.symm⟩
  | succ d ih =>
    intro h b s H
    rcases H with ⟨s', e, hi, H⟩ | ⟨h', s', w, e1, e2, hl, H⟩
    · exact ih _ _ _ H
    · have h0 := ih _ _ _ H
      generalize x d = f at hl h0
      generalize y h' = g at hl
      obtain ⟨fc, fs, fb, fd, fv, fe, kp, kv⟩ := f
      obtain ⟨gt, ph, ge, gk, gv, bp, ok, ov, ob⟩ := g
      obtain ⟨r, t, e, h1, h2, h3, h4, h5, h6, h7, h8, h9, h10, h11⟩ := hl
      rw [h10]
      split
      · exact bl_tk16 (K.2.2 _ (bl_pX K h1 h2)) (by assumption)
      · exact h0
/-- both sides see the same CATCHes -/
theorem bl_St_hc {L : Nat → Nat} {kX vX kY nY : Nat → Int32} (K : bl_Ko L kX vX kY nY) {sc cl : Nat} {x : Nat → bl_XF} {y : Nat → bl_YF} (t : Nat) : ∀ (d h : Nat) (b : Int32) (s : Nat), bl_St kX vX L sc cl x y d h b s → (bl_hc kX vX x d t ↔ bl_hy kY nY y h t) := by
  intro d
  induction d with
  | zero =>
    intro h b s H
    constructor
    · rintro ⟨i, p, hi, _⟩; omega
    · rintro ⟨i, p, hi, _⟩; have := H.1; omega
  | succ d ih =>
    intro h b s H
    rcases H with ⟨s', e, hi, H⟩ | ⟨h', s', w, e1, e2, hl, H⟩
    · rw [← ih _ _ _ H]
      constructor
      · rintro ⟨i, p, h1, h2, h3, h4, h5⟩
        by_cases c : i = d
        · subst c
          generalize x i = f at hi h3
          obtain ⟨fc, fs, fb, fd, fv, fe, kp, kv⟩ := f
          obtain ⟨r, t', a1, a2, a3, a4, _⟩ := hi
          have e3 : nI (48 * r + t') = nI p := a3.symm.trans h3
          have := bl_pX K a1 a2
          rw [nI_eq (by omega) (by omega)] at e3
          rw [e3, h4] at a4
          exact absurd a4 (by decide)
        · exact ⟨i, p, by omega, h2, h3, h4, h5⟩
      · exact bl_hc_up (by omega)
    · generalize hf : x d = f at hl H
      generalize hg : y h' = g at hl
      obtain ⟨fc, fs, fb, fd, fv, fe, kp, kv⟩ := f
      obtain ⟨gt, ph, ge, gk, gv, bp, ok, ov, ob⟩ := g
      obtain ⟨r, t', e, a1, a2, a3, a4, _⟩ := hl
      have q1 := bl_pX K a1 a2
      have q2 := bl_pY K a1 a2
      have q3 := bl_kY K a1 a2
      have I := ih _ _ _ H
      constructor
      · rintro ⟨i, p, h1, h2, h3, h4, h5⟩
        by_cases c : i = d
        · subst c
          rw [hf] at h3
          have e3 : nI (48 * r + t') = nI p := a3.symm.trans h3
          rw [nI_eq (by omega) (by omega)] at e3
          subst e3
          exact ⟨h', bl_yb r + t', by omega, q2, by rw [hg]; exact a4, q3.1.trans h4, q3.2.trans h5⟩
        · obtain ⟨j, p', j1, j2⟩ := I.mp ⟨i, p, by omega, h2, h3, h4, h5⟩
          exact ⟨j, p', by omega, j2⟩
      · rintro ⟨i, p, h1, h2, h3, h4, h5⟩
        by_cases c : i = h'
        · subst c
          rw [hg] at h3
          have e3 : nI (bl_yb r + t') = nI p := a4.symm.trans h3
          rw [nI_eq (by omega) (by omega)] at e3
          subst e3
          exact ⟨d, 48 * r + t', by omega, q1, by rw [hf]; exact a3, q3.1.symm.trans h4, q3.2.symm.trans h5⟩
        · exact bl_hc_up (by omega) (I.mpr ⟨i, p, by omega, h2, h3, h4, h5⟩)
theorem bl_Re_cg {L L' : Nat → Nat} {kX kX' en en' : Nat → Int32} {r : Nat} (hL : L' r = L r) (h48 : L r ≤ 48) (hk : ∀ i, i < L r → kX' (48 * r + i) = kX (48 * r + i)) (he : ∀ i, i < L r → en' (bl_yb r + i) = en (bl_yb r + i)) (R : bl_Re L kX en r) : bl_Re L' kX' en' r := by
  have hg : ∀ j, j < L r → bl_rg kX' r j = bl_rg kX r j := fun j hj => congrArg bl_ar (hk j hj)
  refine ⟨?_, fun i hi => ?_⟩
  · rw [hL]; exact pf_V_cg hg R.1
  · rw [hL] at hi
    obtain ⟨m, h1, h2⟩ := R.2 i hi
    exact ⟨m, pf_E_cg hg R.1 hi h1, (he i hi).trans h2⟩
/-! changes of scopes, closures, places -/
theorem bl_So_push {sp ss so po : Nat → Int32} {sc : Nat} (H : bl_So sp ss so po sc) {o : Int32} (ho : bl_sc sc o) {j : Nat} (hj : j < 8) (hs : sp j = 0) : bl_So sp (upd ss sc (nI j)) (upd so sc o) (upd po sc (nI (32 + sc))) (sc + 1) := by
  intro n hn
  by_cases c : n = sc
  · subst c
    rw [pk_us, pk_us, pk_us]
    exact ⟨ho, rfl, j, hj, rfl, hs⟩
  · rw [pk_un c, pk_un c, pk_un c]
    exact H n (by omega)
theorem bl_Co_up {kX vX : Nat → Int32} {L : Nat → Nat} {cc cs cy cb : Nat → Int32} {sc sc' cl : Nat} (hs : sc ≤ sc') (H : bl_Co kX vX L cc cs cy cb sc cl) : bl_Co kX vX L cc cs cy cb sc' cl :=
  fun n hn => ⟨bl_sc_up hs (H n hn).1, (H n hn).2⟩
theorem bl_Co_push {kX vX : Nat → Int32} {L : Nat → Nat} {cc cs cy cb : Nat → Int32} {sc cl : Nat} (H : bl_Co kX vX L cc cs cy cb sc cl) {o : Int32} (ho : bl_sc sc o) {r t : Nat} (hr : r < 5) (ht : t < L r) (hk : kX (48 * r + t) = 4) : bl_Co kX vX L (upd cc cl (nI (48 * r + t))) (upd cs cl o) (upd cy cl (vX (48 * r + t))) (upd cb cl (nI (bl_yb r + (t + 1)))) sc (cl + 1) := by
  intro n hn
  by_cases c : n = cl
  · subst c
    rw [pk_us, pk_us, pk_us, pk_us]
    exact ⟨ho, r, t, hr, ht, rfl, hk, rfl, rfl⟩
  · rw [pk_un c, pk_un c, pk_un c, pk_un c]
    exact H n (by omega)
theorem bl_Po_up {cl cl' : Nat} (hc : cl ≤ cl') {pl : Nat → Int64} {pk pv : Nat → Int32} (H : bl_Po cl pl pk pv) : bl_Po cl' pl pk pv := fun i hi => bl_vr_up hc (H i hi)
theorem bl_Vo_up {cl cl' sc : Nat} (hc : cl ≤ cl') {sv : Nat → Int64} {pk pv : Nat → Int32} (H : bl_Vo cl sc sv pk pv) : bl_Vo cl' sc sv pk pv := fun i hi => bl_vr_up hc (H i hi)
theorem bl_Po_set {cl : Nat} {pl : Nat → Int64} {pk pv : Nat → Int32} (H : bl_Po cl pl pk pv) (p : Nat) {x : Int64} {k v : Int32} (h : bl_vr cl x k v) : bl_Po cl (vp_updL pl p x) (upd pk p k) (upd pv p v) := by
  intro i hi
  by_cases c : i = p
  · subst c
    rw [pk_uLs, pk_us, pk_us]; exact h
  · rw [pk_uLn c, pk_un c, pk_un c]; exact H i hi
theorem bl_Vo_pl {cl sc : Nat} {sv : Nat → Int64} {pk pv : Nat → Int32} (H : bl_Vo cl sc sv pk pv) {p : Nat} (hp : p < 32) (k v : Int32) : bl_Vo cl sc sv (upd pk p k) (upd pv p v) := by
  intro n hn
  rw [pk_un (by omega), pk_un (by omega)]; exact H n hn
theorem bl_Po_sc {cl : Nat} {pl : Nat → Int64} {pk pv : Nat → Int32} (H : bl_Po cl pl pk pv) (n : Nat) (k v : Int32) : bl_Po cl pl (upd pk (32 + n) k) (upd pv (32 + n) v) := by
  intro i hi
  rw [pk_un (by omega), pk_un (by omega)]; exact H i hi
theorem bl_Vo_set {cl sc sc' : Nat} {sv : Nat → Int64} {pk pv : Nat → Int32} (H : bl_Vo cl sc sv pk pv) (n : Nat) (hs : ∀ i, i < sc' → i ≠ n → i < sc) {x : Int64} {k v : Int32} (h : bl_vr cl x k v) : bl_Vo cl sc' (vp_updL sv n x) (upd pk (32 + n) k) (upd pv (32 + n) v) := by
  intro i hi
  by_cases c : i = n
  · subst c
    rw [pk_uLs, pk_us, pk_us]; exact h
  · rw [pk_uLn c, pk_un (by omega), pk_un (by omega)]; exact H i (hs i hi c)
/-- a frame that the component alone keeps for a turn, while an ending goes on -/
def bl_Tr (kX : Nat → Int32) (L : Nat → Nat) (f : bl_XF) (b : Int32) : Prop :=
  match f with
  | (fc, _, fb, _, _, _, kp, _) => ∃ r t, r < 5 ∧ t < L r ∧ fc = nI (48 * r + t) ∧ (kX (48 * r + t) = 5 ∨ kX (48 * r + t) = 6 ∨ kX (48 * r + t) = 9 ∨ kX (48 * r + t) = 10 ∨ kX (48 * r + t) = 11 ∨ kX (48 * r + t) = 13) ∧ kp = -1 ∧ fb = b
def bl_Sq (kX vX : Nat → Int32) (L : Nat → Nat) (sc cl : Nat) (x : Nat → bl_XF) (y : Nat → bl_YF) (d h : Nat) (b : Int32) (s : Nat) : Prop :=
  bl_St kX vX L sc cl x y d h b s ∨ (∃ d' s', d = d' + 1 ∧ s = 1 + s' ∧ bl_Tr kX L (x d') b ∧ bl_St kX vX L sc cl x y d' h b s')
theorem bl_hc_dn {kX vX : Nat → Int32} {x : Nat → bl_XF} {d t : Nat} (h : bl_hc kX vX x (d + 1) t) (hn : ∀ p, p < 240 → (x d).1 = nI p → kX p = 12 → ¬ vX p = nI t) : bl_hc kX vX x d t := by
  obtain ⟨i, p, h1, h2, h3, h4, h5⟩ := h
  by_cases c : i = d
  · subst c
    exact absurd h5 (hn p h2 h3 h4)
  · exact ⟨i, p, by omega, h2, h3, h4, h5⟩
theorem bl_er_dn {cl : Nat} {kX vX : Nat → Int32} {x : Nat → bl_XF} {d : Nat} {e : Int32} {g : Int64} {tg cd k v : Int32} (h : bl_er cl (bl_hc kX vX x (d + 1)) e g tg cd k v) (hn : ∀ t p, t < 4 → e = nI (16 + t) → p < 240 → (x d).1 = nI p → kX p = 12 → ¬ vX p = nI t) : bl_er cl (bl_hc kX vX x d) e g tg cd k v := by
  rcases h with h | ⟨t, h1, h2, h3, h4, h5, h6⟩
  · exact Or.inl h
  · exact Or.inr ⟨t, h1, h2, h3, h4, bl_hc_dn h5 (fun p => hn t p h1 h2), h6⟩
abbrev bl_x (fc fs fb fd : Nat → Int32) (fv : Nat → Int64) (fe kp : Nat → Int32) (kv : Nat → Int64) : Nat → bl_XF := fun i => (fc i, fs i, fb i, fd i, fv i, fe i, kp i, kv i)
abbrev bl_y (gt ph ge gk gv bp ok ov ob : Nat → Int32) : Nat → bl_YF := fun i => (gt i, ph i, ge i, gk i, gv i, bp i, ok i, ov i, ob i)
end
section
/-! the relation of two states in a run: q is what a run may yet need -/
def bl_Md (L : Nat → Nat) (q : Nat) (kX vX : Nat → Int32) (sc cl st d h s : Nat) (x : Nat → bl_XF) (y : Nat → bl_YF) (xb xm xa xs : Int32) (xg : Int64) (xe ym ya ys yk yv yc yt : Int32) : Prop :=
  (xm = 0 ∧ ym = 1 ∧ xs = ys ∧ bl_sc sc xs ∧ (∃ r t, r < 5 ∧ t < L r ∧ xa = nI (48 * r + t) ∧ ya = nI (bl_yb r + t)) ∧ bl_St kX vX L sc cl x y d h xb s ∧ q = 3010 * (300 - st) + s + 1)
  ∨ (xm = 1 ∧ ym = 0 ∧ xe = 0 ∧ bl_vg cl xg yk yv ∧ bl_St kX vX L sc cl x y d h xb s ∧ q = 3010 * (300 - st) + s)
  ∨ (xm = 2 ∧ ym = 2 ∧ bl_er cl (bl_hc kX vX x d) xe xg yt yc yk yv ∧ bl_Sq kX vX L sc cl x y d h xb s ∧ q = 3010 * (300 - st) + s)
  ∨ (xm = 2 ∧ ym = 3 ∧ xe = 5 ∧ bl_St kX vX L sc cl x y d h xb s ∧ q = 3010 * (300 - st) + s)
def bl_RR (L : Nat → Nat) (q : Nat) (u : SX) (v : SY) : Prop :=
  match u, v with
  | (dl, lr, lc, xst, xd, xcl, xsc, xm, xa, xs, xb, xg, xe, kX, vX, df, pr, sp, pl, th, fc, fs, fb, fd, fv, fe, kp, kv, cc, cs, ss, sv, so), (yen, ycl, yw, xb', xst', ym, ya, ys, yk, yv, yc, yt, rk, rv, kY, nY, en, ln, pr', sp', pk, pv, th', ss', po, so', cy, cb, cs', gt, ph, ge, gk, gv, bp, ok, ov, ob) =>
    (pr' = pr ∧ sp' = sp ∧ th' = th ∧ ss' = ss ∧ so' = so ∧ cs' = cs ∧ xb' = xb ∧ xst' = xst) ∧ ∃ d h sc cl st s : Nat, (xd = nI d ∧ yw = nI h ∧ xsc = nI sc ∧ yen = nI sc ∧ xcl = nI cl ∧ ycl = nI cl ∧ xst = nI st)
    ∧ bl_Cf L dl kX vX df pr sp kY nY en ln ∧ (d ≤ st ∧ cl ≤ st ∧ st ≤ 300 ∧ 3001 * sc + s ≤ 3010 * st)
    ∧ bl_So sp ss so po sc ∧ bl_Co kX vX L cc cs cy cb sc cl ∧ bl_Po cl pl pk pv ∧ bl_Vo cl sc sv pk pv
    ∧ bl_Md L q kX vX sc cl st d h s (bl_x fc fs fb fd fv fe kp kv) (bl_y gt ph ge gk gv bp ok ov ob) xb xm xa xs xg xe ym ya ys yk yv yc yt
section
variable {dl lc xst xd xcl xsc xm xa xs xb xe yen ycl yw ym ya ys yk yv yc yt rk rv : Int32}
variable {lr xg : Int64}
variable {kX vX df pr sp th fc fs fb fd fe kp cc cs ss so kY nY en ln pk pv po cy cb gt ph ge gk gv bp ok ov ob : Nat → Int32}
variable {pl fv kv sv : Nat → Int64}
variable {L : Nat → Nat} {q d h sc cl st s r t : Nat}
theorem bl_mkE (C : bl_Cf L dl kX vX df pr sp kY nY en ln) (hd : d ≤ st) (hcl : cl ≤ st) (hst : st ≤ 300) (hw : 3001 * sc + s ≤ 3010 * st) (So : bl_So sp ss so po sc) (Co : bl_Co kX vX L cc cs cy cb sc cl) (P : bl_Po cl pl pk pv) (V : bl_Vo cl sc sv pk pv) (S : bl_St kX vX L sc cl (bl_x fc fs fb fd fv fe kp kv) (bl_y gt ph ge gk gv bp ok ov ob) d h xb s) (hs : bl_sc sc xs) (hr : r < 5) (ht : t < L r) (hq : q = 3010 * (300 - st) + s + 1) : bl_RR L q (dl, lr, lc, (nI st), (nI d), (nI cl), (nI sc), 0, (nI (48 * r + t)), xs, xb, xg, xe, kX, vX, df, pr, sp, pl, th, fc, fs, fb, fd, fv, fe, kp, kv, cc, cs, ss, sv, so) ((nI sc), (nI cl), (nI h), xb, (nI st), 1, (nI (bl_yb r + t)), xs, yk, yv, yc, yt, rk, rv, kY, nY, en, ln, pr, sp, pk, pv, th, ss, po, so, cy, cb, cs, gt, ph, ge, gk, gv, bp, ok, ov, ob) :=
  ⟨⟨rfl, rfl, rfl, rfl, rfl, rfl, rfl, rfl⟩, d, h, sc, cl, st, s, ⟨rfl, rfl, rfl, rfl, rfl, rfl, rfl⟩, C, ⟨hd, hcl, hst, hw⟩, So, Co, P, V, Or.inl ⟨rfl, rfl, rfl, hs, ⟨r, t, hr, ht, rfl, rfl⟩, S, hq⟩⟩
theorem bl_mkG (C : bl_Cf L dl kX vX df pr sp kY nY en ln) (hd : d ≤ st) (hcl : cl ≤ st) (hst : st ≤ 300) (hw : 3001 * sc + s ≤ 3010 * st) (So : bl_So sp ss so po sc) (Co : bl_Co kX vX L cc cs cy cb sc cl) (P : bl_Po cl pl pk pv) (V : bl_Vo cl sc sv pk pv) (S : bl_St kX vX L sc cl (bl_x fc fs fb fd fv fe kp kv) (bl_y gt ph ge gk gv bp ok ov ob) d h xb s) (hg : bl_vg cl xg yk yv) (hq : q = 3010 * (300 - st) + s) : bl_RR L q (dl, lr, lc, (nI st), (nI d), (nI cl), (nI sc), 1, xa, xs, xb, xg, 0, kX, vX, df, pr, sp, pl, th, fc, fs, fb, fd, fv, fe, kp, kv, cc, cs, ss, sv, so) ((nI sc), (nI cl), (nI h), xb, (nI st), 0, ya, ys, yk, yv, yc, yt, rk, rv, kY, nY, en, ln, pr, sp, pk, pv, th, ss, po, so, cy, cb, cs, gt, ph, ge, gk, gv, bp, ok, ov, ob) :=
  ⟨⟨rfl, rfl, rfl, rfl, rfl, rfl, rfl, rfl⟩, d, h, sc, cl, st, s, ⟨rfl, rfl, rfl, rfl, rfl, rfl, rfl⟩, C, ⟨hd, hcl, hst, hw⟩, So, Co, P, V, Or.inr (Or.inl ⟨rfl, rfl, rfl, hg, S, hq⟩)⟩
theorem bl_mkN (C : bl_Cf L dl kX vX df pr sp kY nY en ln) (hd : d ≤ st) (hcl : cl ≤ st) (hst : st ≤ 300) (hw : 3001 * sc + s ≤ 3010 * st) (So : bl_So sp ss so po sc) (Co : bl_Co kX vX L cc cs cy cb sc cl) (P : bl_Po cl pl pk pv) (V : bl_Vo cl sc sv pk pv) (S : bl_Sq kX vX L sc cl (bl_x fc fs fb fd fv fe kp kv) (bl_y gt ph ge gk gv bp ok ov ob) d h xb s) (he : bl_er cl (bl_hc kX vX (bl_x fc fs fb fd fv fe kp kv) d) xe xg yt yc yk yv) (hq : q = 3010 * (300 - st) + s) : bl_RR L q (dl, lr, lc, (nI st), (nI d), (nI cl), (nI sc), 2, xa, xs, xb, xg, xe, kX, vX, df, pr, sp, pl, th, fc, fs, fb, fd, fv, fe, kp, kv, cc, cs, ss, sv, so) ((nI sc), (nI cl), (nI h), xb, (nI st), 2, ya, ys, yk, yv, yc, yt, rk, rv, kY, nY, en, ln, pr, sp, pk, pv, th, ss, po, so, cy, cb, cs, gt, ph, ge, gk, gv, bp, ok, ov, ob) :=
  ⟨⟨rfl, rfl, rfl, rfl, rfl, rfl, rfl, rfl⟩, d, h, sc, cl, st, s, ⟨rfl, rfl, rfl, rfl, rfl, rfl, rfl⟩, C, ⟨hd, hcl, hst, hw⟩, So, Co, P, V, Or.inr (Or.inr (Or.inl ⟨rfl, rfl, he, S, hq⟩))⟩
theorem bl_mkL (C : bl_Cf L dl kX vX df pr sp kY nY en ln) (hd : d ≤ st) (hcl : cl ≤ st) (hst : st ≤ 300) (hw : 3001 * sc + s ≤ 3010 * st) (So : bl_So sp ss so po sc) (Co : bl_Co kX vX L cc cs cy cb sc cl) (P : bl_Po cl pl pk pv) (V : bl_Vo cl sc sv pk pv) (S : bl_St kX vX L sc cl (bl_x fc fs fb fd fv fe kp kv) (bl_y gt ph ge gk gv bp ok ov ob) d h xb s) (hq : q = 3010 * (300 - st) + s) : bl_RR L q (dl, lr, lc, (nI st), (nI d), (nI cl), (nI sc), 2, xa, xs, xb, xg, 5, kX, vX, df, pr, sp, pl, th, fc, fs, fb, fd, fv, fe, kp, kv, cc, cs, ss, sv, so) ((nI sc), (nI cl), (nI h), xb, (nI st), 3, ya, ys, yk, yv, yc, yt, rk, rv, kY, nY, en, ln, pr, sp, pk, pv, th, ss, po, so, cy, cb, cs, gt, ph, ge, gk, gv, bp, ok, ov, ob) :=
  ⟨⟨rfl, rfl, rfl, rfl, rfl, rfl, rfl, rfl⟩, d, h, sc, cl, st, s, ⟨rfl, rfl, rfl, rfl, rfl, rfl, rfl⟩, C, ⟨hd, hcl, hst, hw⟩, So, Co, P, V, Or.inr (Or.inr (Or.inr ⟨rfl, rfl, rfl, S, hq⟩))⟩
end
end
section
/-! the inner methods of the component -/
theorem bl_x_pc {post : Int32 → Prop} {k v : Int32} (h : bl_tk k v) (hp : post (nI (bl_ar k))) : wpX_partCount post k := by
  rcases h with (h | h | h | h | h | h | h | h | h | h) | ⟨(h | h | h | h | h), _⟩ | ⟨(h | h | h), _⟩ | ⟨h, _⟩ <;> subst h <;> simp [bl_ar] at hp <;> simp [wpX_partCount] <;> exact hp
theorem bl_y_pc {post : Int32 → Prop} {k v : Int32} (h : bl_tk k v) (hp : post (nI (bl_ar k))) : wpY_operands post k := by
  rcases h with (h | h | h | h | h | h | h | h | h | h) | ⟨(h | h | h | h | h), _⟩ | ⟨(h | h | h), _⟩ | ⟨h, _⟩ <;> subst h <;> simp [bl_ar] at hp <;> simp [wpY_operands] <;> exact hp
theorem bl_due {x a : Nat} (h : 1 ≤ x) : nI x + (nI a - 1) = nI (x + a - 1) := by
  obtain ⟨y, rfl⟩ : ∃ y, x = y + 1 := ⟨x - 1, by omega⟩
  rw [show y + 1 + a - 1 = y + a from by omega, ← nI_1, ← nI_add]
  grind
section
variable {dl lc xst xd xcl xsc xm xa xs xb xe yen ycl yw ym ya ys yk yv yc yt rk rv : Int32}
variable {lr xg : Int64}
variable {kX vX df pr sp th fc fs fb fd fe kp cc cs ss so kY nY en ln pk pv po cy cb gt ph ge gk gv bp ok ov ob : Nat → Int32}
variable {pl fv kv sv : Nat → Int64}
variable {L : Nat → Nat} {d r t m m2 p i : Nat}
theorem bl_x_beh (hk : ∀ p, p < 240 → bl_tk (kX p) (vX p)) (hr : r < 5) (hm : m ≤ 48) (E : pf_E (bl_rg kX r) i m) {post : Int32 → Prop} (hp : post (nI (48 * r + m))) : wpX_behindExpression post (dl, lr, lc, xst, xd, xcl, xsc, xm, xa, xs, xb, xg, xe, kX, vX, df, pr, sp, pl, th, fc, fs, fb, fd, fv, fe, kp, kv, cc, cs, ss, sv, so) (nI (48 * r + i)) := by
  have key : ∀ n l, i ≤ l → l ≤ m → m - l < n → wX_behindExpression_4 post dl lr lc xst xd xcl xsc xm xa xs xb xg xe kX vX df pr sp pl th fc fs fb fd fv fe kp kv cc cs ss sv so n (nI (pf_D (bl_rg kX r) l + 1 - pf_D (bl_rg kX r) i)) (nI (48 * r + l)) := by
    intro n
    induction n with
    | zero => intro l _ _ h; omega
    | succ n ih =>
      intro l h1 h2 h3
      by_cases c : l = m
      · subst c
        refine br_c (fun _ => hp) (fun _ => br_t ?_ hp)
        rw [show pf_D (bl_rg kX r) l + 1 - pf_D (bl_rg kX r) i = 0 from by have := E.2.1; omega]
        decide
      · have e1 := E.2.2 l h1 (by omega)
        have e2 := pf_D_le (g := bl_rg kX r) (fun i => bl_ar_le _) l
        refine br_f (nI_ge (b := 240) (by omega) (by decide)) (br_f (nI_nle (by omega) (by omega)) ⟨vp_in_nI (by omega) (by decide), ?_⟩)
        rw [nI_clamp (by omega)]
        refine bl_x_pc (hk _ (by omega)) ?_
        have e3 : pf_D (bl_rg kX r) (l + 1) = pf_D (bl_rg kX r) l + bl_ar (kX (48 * r + l)) - 1 := rfl
        refine nm_r ((bl_due (by omega)).trans (congrArg nI ?_)) (nm_r (nI_1 _) (ih (l + 1) (by omega) (by omega) (by omega)))
        have e5 := E.2.1
        omega
  refine ⟨m - i + 1, ?_⟩
  have := key (m - i + 1) i (Nat.le_refl _) (Nat.le_of_lt E.1) (by omega)
  rw [show pf_D (bl_rg kX r) i + 1 - pf_D (bl_rg kX r) i = 1 from by omega] at this
  exact this
theorem bl_x_sp1 (hd : d < 300) (hp0 : 48 * r + t < 240) (hfc : fc d = nI (48 * r + t)) {post : SX → Prop} (hp : post (dl, lr, lc, xst, (nI (d + 1)), xcl, xsc, 0, (nI (48 * r + (t + 1))), (fs d), xb, xg, xe, kX, vX, df, pr, sp, pl, th, fc, fs, fb, fd, fv, fe, kp, kv, cc, cs, ss, sv, so)) : wpX_startPart post (dl, lr, lc, xst, (nI (d + 1)), xcl, xsc, xm, xa, xs, xb, xg, xe, kX, vX, df, pr, sp, pl, th, fc, fs, fb, fd, fv, fe, kp, kv, cc, cs, ss, sv, so) 1 := by
  refine nm_r (nI_pred d) ⟨vp_in_nI hd (by decide), nm_r (e' := nI (48 * r + (t + 1))) ?_ ⟨1, br_t (by decide) ⟨vp_in_nI hd (by decide), ?_⟩⟩⟩
  · rw [nI_clamp (by omega), hfc, nI_1]; rfl
  · rw [nI_clamp (by omega)]; exact hp
theorem bl_x_sp2 (hk : ∀ p, p < 240 → bl_tk (kX p) (vX p)) (hr : r < 5) (hm : m ≤ 48) (E : pf_E (bl_rg kX r) (t + 1) m) (hd : d < 300) (hp0 : 48 * r + t < 240) (hfc : fc d = nI (48 * r + t)) {post : SX → Prop} (hp : post (dl, lr, lc, xst, (nI (d + 1)), xcl, xsc, 0, (nI (48 * r + m)), (fs d), xb, xg, xe, kX, vX, df, pr, sp, pl, th, fc, fs, fb, fd, fv, fe, kp, kv, cc, cs, ss, sv, so)) : wpX_startPart post (dl, lr, lc, xst, (nI (d + 1)), xcl, xsc, xm, xa, xs, xb, xg, xe, kX, vX, df, pr, sp, pl, th, fc, fs, fb, fd, fv, fe, kp, kv, cc, cs, ss, sv, so) 2 := by
  refine nm_r (nI_pred d) ⟨vp_in_nI hd (by decide), nm_r (e' := nI (48 * r + (t + 1))) ?_ ⟨2, br_f (by decide) (bl_x_beh hk hr hm E (nm_r (e' := 2) (by decide) (br_t (by decide) ⟨vp_in_nI hd (by decide), ?_⟩)))⟩⟩
  · rw [nI_clamp (by omega), hfc, nI_1]; rfl
  · rw [nI_clamp (by omega)]; exact hp
theorem bl_x_sp3 (hk : ∀ p, p < 240 → bl_tk (kX p) (vX p)) (hr : r < 5) (hm : m ≤ 48) (E : pf_E (bl_rg kX r) (t + 1) m) (hm2 : m2 ≤ 48) (E2 : pf_E (bl_rg kX r) m m2) (hd : d < 300) (hp0 : 48 * r + t < 240) (hfc : fc d = nI (48 * r + t)) {post : SX → Prop} (hp : post (dl, lr, lc, xst, (nI (d + 1)), xcl, xsc, 0, (nI (48 * r + m2)), (fs d), xb, xg, xe, kX, vX, df, pr, sp, pl, th, fc, fs, fb, fd, fv, fe, kp, kv, cc, cs, ss, sv, so)) : wpX_startPart post (dl, lr, lc, xst, (nI (d + 1)), xcl, xsc, xm, xa, xs, xb, xg, xe, kX, vX, df, pr, sp, pl, th, fc, fs, fb, fd, fv, fe, kp, kv, cc, cs, ss, sv, so) 3 := by
  refine nm_r (nI_pred d) ⟨vp_in_nI hd (by decide), nm_r (e' := nI (48 * r + (t + 1))) ?_ ⟨3, br_f (by decide) (bl_x_beh hk hr hm E (nm_r (e' := 2) (by decide) (br_f (by decide) (bl_x_beh hk hr hm2 E2 (nm_r (e' := 3) (by decide) (br_t (by decide) ⟨vp_in_nI hd (by decide), ?_⟩))))))⟩⟩
  · rw [nI_clamp (by omega), hfc, nI_1]; rfl
  · rw [nI_clamp (by omega)]; exact hp
theorem bl_x_cl1 (hd : d < 300) (hk : kp d = -1) {post : SX → Prop} (hp : post (dl, lr, lc, xst, (nI d), xcl, xsc, xm, xa, xs, (fb d), xg, xe, kX, vX, df, pr, sp, pl, th, fc, fs, fb, fd, fv, fe, kp, kv, cc, cs, ss, sv, so)) : wpX_closeFrame post (dl, lr, lc, xst, (nI (d + 1)), xcl, xsc, xm, xa, xs, xb, xg, xe, kX, vX, df, pr, sp, pl, th, fc, fs, fb, fd, fv, fe, kp, kv, cc, cs, ss, sv, so) := by
  refine nm_r (nI_pred d) ⟨vp_in_nI hd (by decide), br_t ?_ ⟨vp_in_nI hd (by decide), nm_r (e' := fb d) ?_ hp⟩⟩
  · rw [nI_clamp (by omega)]; exact hk
  · rw [nI_clamp (by omega)]
theorem bl_neg1 {p : Nat} (hp : p < 1000) : ¬ nI p = -1 := by
  intro h
  have h2 := nI_pos (n := p) (by omega)
  rw [h] at h2
  exact h2 (by decide)
theorem bl_x_cl2 (hd : d < 300) (hk : kp d = nI p) (hp0 : p < 32) {post : SX → Prop} (hp : post (dl, lr, lc, xst, (nI d), xcl, xsc, xm, xa, xs, (fb d), xg, xe, kX, vX, df, pr, sp, (vp_updL pl p (kv d)), th, fc, fs, fb, fd, fv, fe, kp, kv, cc, cs, ss, sv, so)) : wpX_closeFrame post (dl, lr, lc, xst, (nI (d + 1)), xcl, xsc, xm, xa, xs, xb, xg, xe, kX, vX, df, pr, sp, pl, th, fc, fs, fb, fd, fv, fe, kp, kv, cc, cs, ss, sv, so) := by
  refine nm_r (nI_pred d) ⟨vp_in_nI hd (by decide), ?_⟩
  rw [nI_clamp (by omega), hk]
  refine br_f (bl_neg1 (by omega)) ⟨vp_in_nI hd (by decide), vp_in_nI hd (by decide), vp_in_nI hp0 (by decide), nm_r (e' := vp_updL pl p (kv d)) ?_ ⟨vp_in_nI hd (by decide), nm_r (e' := fb d) ?_ hp⟩⟩
  · rw [nI_clamp (by omega)]
  · rw [nI_clamp (by omega)]
theorem bl_x_pp {j b : Nat} (hj : j < 8) (hb : b < 3) {post : Int32 → Prop} (hp : post (if th (8 * (b + 1) + j) = 0 then nI j else nI (8 * (b + 1) + j))) : wpX_presentPlace post (dl, lr, lc, xst, xd, xcl, xsc, xm, xa, xs, (nI b), xg, xe, kX, vX, df, pr, sp, pl, th, fc, fs, fb, fd, fv, fe, kp, kv, cc, cs, ss, sv, so) (nI j) := by
  have e : (nI b + 1) * 8 + nI j = nI (8 * (b + 1) + j) := by
    rw [nI_1, show (8 : Int32) = nI 8 from rfl, pk_mul, nI_add, Nat.mul_comm]
  show vp_in ((nI b + 1) * 8 + nI j) 32 ∧ _
  rw [e, nI_clamp (by omega)]
  refine ⟨vp_in_nI (by omega) (by decide), ?_⟩
  by_cases c : th (8 * (b + 1) + j) = 0
  · rw [if_pos c] at hp; exact br_t c hp
  · rw [if_neg c] at hp; exact br_f c hp
theorem bl_y_pp {j b : Nat} (hj : j < 8) (hb : b < 3) {post : Int32 → Prop} (hp : post (if th (8 * (b + 1) + j) = 0 then nI j else nI (8 * (b + 1) + j))) : wpY_present post (yen, ycl, yw, (nI b), xst, ym, ya, ys, yk, yv, yc, yt, rk, rv, kY, nY, en, ln, pr, sp, pk, pv, th, ss, po, so, cy, cb, cs, gt, ph, ge, gk, gv, bp, ok, ov, ob) (nI j) := by
  refine nm_r (e' := nI (8 * (b + 1) + j)) ?_ ?_
  · rw [show (8 : Int32) = nI 8 from rfl, pk_mul, nI_add, nI_add]
    exact congrArg nI (by omega)
  rw [nI_clamp (by omega)]
  refine ⟨vp_in_nI (by omega) (by decide), ?_⟩
  by_cases c : th (8 * (b + 1) + j) = 0
  · rw [if_pos c] at hp; exact br_t c hp
  · rw [if_neg c] at hp; exact br_f c hp
theorem bl_pp {j b : Nat} (hj : j < 8) (hb : b < 3) : ∃ p, p < 32 ∧ (if th (8 * (b + 1) + j) = 0 then nI j else nI (8 * (b + 1) + j)) = nI p := by
  by_cases c : th (8 * (b + 1) + j) = 0
  · exact ⟨j, by omega, if_pos c⟩
  · exact ⟨8 * (b + 1) + j, by omega, if_neg c⟩
theorem bl_x_hc (hx : ∀ i, i < d → ∃ p, p < 240 ∧ fc i = nI p) (hd : d ≤ 300) {j : Nat} (hj : j < 4) {post : Int32 → Prop} (h1 : bl_hc kX vX (bl_x fc fs fb fd fv fe kp kv) d j → post 1) (h0 : ¬ bl_hc kX vX (bl_x fc fs fb fd fv fe kp kv) d j → post 0) : wpX_hasCatch post (dl, lr, lc, xst, (nI d), xcl, xsc, xm, xa, xs, xb, xg, xe, kX, vX, df, pr, sp, pl, th, fc, fs, fb, fd, fv, fe, kp, kv, cc, cs, ss, sv, so) (nI j) := by
  have key : ∀ n l, l ≤ d → d - l < n → (∀ i, i < l → ∀ p, p < 240 → fc i = nI p → kX p = 12 → ¬ vX p = nI j) → wX_hasCatch_2 post (nI j) dl lr lc xst (nI d) xcl xsc xm xa xs xb xg xe kX vX df pr sp pl th fc fs fb fd fv fe kp kv cc cs ss sv so n (nI l) := by
    intro n
    induction n with
    | zero => intro l _ h; omega
    | succ n ih =>
      intro l h1' h2 h3
      by_cases c : l = d
      · subst c
        refine br_t (nI_le (Nat.le_refl _) (by omega)) (h0 ?_)
        rintro ⟨i, p, a1, a2, a3, a4, a5⟩
        exact h3 i a1 p a2 a3 a4 a5
      · obtain ⟨p, p1, p2⟩ := hx l (by omega)
        refine br_f (nI_ge (by omega) (by omega)) ⟨vp_in_nI (by omega) (by decide), nm_r (e' := nI p) (by rw [nI_clamp (by omega), p2]) ⟨vp_in_nI p1 (by decide), ?_⟩⟩
        rw [nI_clamp (by omega)]
        have nx : (∀ p', p' < 240 → fc l = nI p' → kX p' = 12 → ¬ vX p' = nI j) → ∀ x : Int32, x = nI l + 1 → wX_hasCatch_2 post (nI j) dl lr lc xst (nI d) xcl xsc xm xa xs xb xg xe kX vX df pr sp pl th fc fs fb fd fv fe kp kv cc cs ss sv so n x := by
          intro q
          refine nm_r (nI_1 l) (ih (l + 1) (by omega) (by omega) ?_)
          intro i hi
          by_cases e : i = l
          · subst e; exact q
          · exact h3 i (by omega)
        have uq : ∀ p', p' < 240 → fc l = nI p' → p' = p := by
          intro p' l' e
          rw [p2] at e
          exact ((nI_eq (by omega) (by omega)).mp e).symm
        by_cases k : kX p = 12
        · refine br_t k ⟨vp_in_nI p1 (by decide), ?_⟩
          by_cases w : vX p = nI j
          · exact br_t w (h1 ⟨l, p, by omega, p1, p2, k, w⟩)
          · refine br_f w (nx ?_)
            intro p' l' e _
            rw [uq p' l' e]; exact w
        · refine br_f k (nx ?_)
          intro p' l' e k'
          rw [uq p' l' e] at k'
          exact absurd k' k
  exact ⟨d + 1, key (d + 1) 0 (by omega) (by omega) (fun i hi => by omega)⟩
end
end
section
/-! the inner methods of the reference, and pairs of methods -/
section
variable {dl lc xst xd xcl xsc xm xa xs xb xe yen ycl yw ym ya ys yk yv yc yt rk rv : Int32}
variable {lr xg : Int64}
variable {kX vX df pr sp th fc fs fb fd fe kp cc cs ss so kY nY en ln pk pv po cy cb gt ph ge gk gv bp ok ov ob : Nat → Int32}
variable {pl fv kv sv : Nat → Int64}
variable {L : Nat → Nat} {d h w r t m m2 p j b sc cl : Nat}
theorem bl_y_op1 (h1 : bl_yb r + (t + 1) < 240) (he : en (bl_yb r + (t + 1)) = nI (bl_yb r + m)) {post : Int32 → Prop} (hp : post (nI (bl_yb r + m))) : wpY_operand post (yen, ycl, yw, xb, xst, ym, ya, ys, yk, yv, yc, yt, rk, rv, kY, nY, en, ln, pr, sp, pk, pv, th, ss, po, so, cy, cb, cs, gt, ph, ge, gk, gv, bp, ok, ov, ob) (nI (bl_yb r + t)) 1 := by
  refine nm_r (e' := nI (bl_yb r + (t + 1))) (nI_1 _) ⟨2, br_f (by decide) ⟨vp_in_nI h1 (by decide), nm_r (e' := nI (bl_yb r + m)) ?_ (nm_r (e' := 1) (by decide) (br_t (by decide) hp))⟩⟩
  rw [nI_clamp (by omega), he]
theorem bl_y_op2 (h1 : bl_yb r + (t + 1) < 240) (he : en (bl_yb r + (t + 1)) = nI (bl_yb r + m)) (h2 : bl_yb r + m < 240) (he2 : en (bl_yb r + m) = nI (bl_yb r + m2)) {post : Int32 → Prop} (hp : post (nI (bl_yb r + m2))) : wpY_operand post (yen, ycl, yw, xb, xst, ym, ya, ys, yk, yv, yc, yt, rk, rv, kY, nY, en, ln, pr, sp, pk, pv, th, ss, po, so, cy, cb, cs, gt, ph, ge, gk, gv, bp, ok, ov, ob) (nI (bl_yb r + t)) 2 := by
  refine nm_r (e' := nI (bl_yb r + (t + 1))) (nI_1 _) ⟨3, br_f (by decide) ⟨vp_in_nI h1 (by decide), nm_r (e' := nI (bl_yb r + m)) ?_ (nm_r (e' := 1) (by decide) (br_f (by decide) ⟨vp_in_nI h2 (by decide), nm_r (e' := nI (bl_yb r + m2)) ?_ (nm_r (e' := 2) (by decide) (br_t (by decide) hp))⟩))⟩⟩
  · rw [nI_clamp (by omega), he]
  · rw [nI_clamp (by omega), he2]
theorem bl_y_gb1 (hw : w < 320) (hb : bp w = -1) {post : SY → Prop} (hp : post (yen, ycl, yw, xb, xst, ym, ya, ys, yk, yv, yc, yt, rk, rv, kY, nY, en, ln, pr, sp, pk, pv, th, ss, po, so, cy, cb, cs, gt, ph, ge, gk, gv, bp, ok, ov, ob)) : wpY_giveBack post (yen, ycl, yw, xb, xst, ym, ya, ys, yk, yv, yc, yt, rk, rv, kY, nY, en, ln, pr, sp, pk, pv, th, ss, po, so, cy, cb, cs, gt, ph, ge, gk, gv, bp, ok, ov, ob) (nI w) := by
  refine ⟨vp_in_nI hw (by decide), br_f ?_ hp⟩
  rw [nI_clamp (by omega), hb]
  decide
theorem bl_y_gb2 (hw : w < 320) (hb : bp w = nI p) (hp0 : p < 32) {post : SY → Prop} (hp : post (yen, ycl, yw, xb, xst, ym, ya, ys, yk, yv, yc, yt, rk, rv, kY, nY, en, ln, pr, sp, (upd pk p (ok w)), (upd pv p (ov w)), th, ss, po, so, cy, cb, cs, gt, ph, ge, gk, gv, (upd bp w (-1)), ok, ov, ob)) : wpY_giveBack post (yen, ycl, yw, xb, xst, ym, ya, ys, yk, yv, yc, yt, rk, rv, kY, nY, en, ln, pr, sp, pk, pv, th, ss, po, so, cy, cb, cs, gt, ph, ge, gk, gv, bp, ok, ov, ob) (nI w) := by
  refine ⟨vp_in_nI hw (by decide), ?_⟩
  have i1 : vp_in (nI w) 320 := vp_in_nI hw (by decide)
  have i2 : vp_in (nI p) 340 := vp_in_nI (by omega) (by decide)
  rw [nI_clamp (by omega), hb, nI_clamp (by omega)]
  exact br_t (nI_pos' (by omega)) ⟨i1, i1, i2, nm_e ⟨i1, i1, i2, nm_e ⟨i1, nm_e hp⟩⟩⟩
/-- a frame that both sides have is closed: what was bound is given back -/
theorem bl_close (hd : d < 300) (hw : w < 320) (B : bl_bd cl (kp d) (kv d) (bp w) (ok w) (ov w)) (P : bl_Po cl pl pk pv) (V : bl_Vo cl sc sv pk pv) : ∃ (pl' : Nat → Int64) (pk' pv' bp' : Nat → Int32), bl_Po cl pl' pk' pv' ∧ bl_Vo cl sc sv pk' pv' ∧ (∀ i, i ≠ w → bp' i = bp i)
    ∧ (∀ post : SX → Prop, post (dl, lr, lc, xst, (nI d), xcl, xsc, xm, xa, xs, (fb d), xg, xe, kX, vX, df, pr, sp, pl', th, fc, fs, fb, fd, fv, fe, kp, kv, cc, cs, ss, sv, so) → wpX_closeFrame post (dl, lr, lc, xst, (nI (d + 1)), xcl, xsc, xm, xa, xs, xb, xg, xe, kX, vX, df, pr, sp, pl, th, fc, fs, fb, fd, fv, fe, kp, kv, cc, cs, ss, sv, so)) ∧ (∀ post : SY → Prop, post (yen, ycl, yw, xb, xst, ym, ya, ys, yk, yv, yc, yt, rk, rv, kY, nY, en, ln, pr, sp, pk', pv', th, ss, po, so, cy, cb, cs, gt, ph, ge, gk, gv, bp', ok, ov, ob) → wpY_giveBack post (yen, ycl, yw, xb, xst, ym, ya, ys, yk, yv, yc, yt, rk, rv, kY, nY, en, ln, pr, sp, pk, pv, th, ss, po, so, cy, cb, cs, gt, ph, ge, gk, gv, bp, ok, ov, ob) (nI w)) := by
  rcases B with ⟨b1, b2⟩ | ⟨p, b0, b1, b2, b3⟩
  · exact ⟨pl, pk, pv, bp, P, V, fun _ _ => rfl, fun post hp => bl_x_cl1 hd b1 hp, fun post hp => bl_y_gb1 hw b2 hp⟩
  · exact ⟨vp_updL pl p (kv d), upd pk p (ok w), upd pv p (ov w), upd bp w (-1), bl_Po_set P p b3, bl_Vo_pl V b0 _ _, fun i hi => pk_un hi, fun post hp => bl_x_cl2 hd b1 b0 hp, fun post hp => bl_y_gb2 hw b2 b0 hp⟩
theorem bl_y_hu (hy : ∀ i, i < h → ∃ p, p < 240 ∧ gt i = nI p) (hh : h ≤ 300) (hj : j < 4) {post : SY → Prop} (h1 : bl_hy kY nY (bl_y gt ph ge gk gv bp ok ov ob) h j → post (yen, ycl, (nI h), xb, xst, 2, ya, ys, yk, yv, 0, (nI j), rk, rv, kY, nY, en, ln, pr, sp, pk, pv, th, ss, po, so, cy, cb, cs, gt, ph, ge, gk, gv, bp, ok, ov, ob)) (h0 : ¬ bl_hy kY nY (bl_y gt ph ge gk gv bp ok ov ob) h j → post (yen, ycl, (nI h), xb, xst, 2, ya, ys, yk, yv, 3, (-1), rk, rv, kY, nY, en, ln, pr, sp, pk, pv, th, ss, po, so, cy, cb, cs, gt, ph, ge, gk, gv, bp, ok, ov, ob)) : wpY_hurl post (yen, ycl, (nI h), xb, xst, ym, ya, ys, yk, yv, yc, yt, rk, rv, kY, nY, en, ln, pr, sp, pk, pv, th, ss, po, so, cy, cb, cs, gt, ph, ge, gk, gv, bp, ok, ov, ob) (nI j) := by
  have key : ∀ n l (x : Int32), l ≤ h → h - l < n → ((x = 0 ∧ ¬ bl_hy kY nY (bl_y gt ph ge gk gv bp ok ov ob) l j) ∨ (x = 1 ∧ bl_hy kY nY (bl_y gt ph ge gk gv bp ok ov ob) l j)) → wY_hurl_4 post (nI j) yen ycl (nI h) xb xst ym ya ys yk yv yc yt rk rv kY nY en ln pr sp pk pv th ss po so cy cb cs gt ph ge gk gv bp ok ov ob n x (nI l) := by
    intro n
    induction n with
    | zero => intro l x _ h; omega
    | succ n ih =>
      intro l x h1' h2 h3
      by_cases c : l = h
      · subst c
        refine br_t (nI_le (Nat.le_refl _) (by omega)) ?_
        rcases h3 with ⟨rfl, h3⟩ | ⟨rfl, h3⟩
        · exact br_t rfl (h0 h3)
        · exact br_f (by decide) (h1 h3)
      · obtain ⟨p, p1, p2⟩ := hy l (by omega)
        have i1 : vp_in (nI l) 320 := vp_in_nI (by omega) (by decide)
        have i2 : vp_in (nI p) 240 := vp_in_nI p1 (by decide)
        refine br_f (nI_ge (by omega) (by omega)) ⟨i1, ?_⟩
        rw [nI_clamp (by omega), p2, nI_clamp (by omega)]
        have uq : ∀ p', p' < 240 → gt l = nI p' → p' = p := by
          intro p' l' e
          rw [p2] at e
          exact ((nI_eq (by omega) (by omega)).mp e).symm
        have no : ¬ (kY p = 12 ∧ nY p = nI j) → (x = 0 ∧ ¬ bl_hy kY nY (bl_y gt ph ge gk gv bp ok ov ob) (l + 1) j) ∨ (x = 1 ∧ bl_hy kY nY (bl_y gt ph ge gk gv bp ok ov ob) (l + 1) j) := by
          intro q
          rcases h3 with ⟨e, h3⟩ | ⟨e, h3⟩
          · refine Or.inl ⟨e, ?_⟩
            rintro ⟨i, p', a1, a2, a3, a4, a5⟩
            by_cases e : i = l
            · subst e
              have := uq p' a2 a3
              subst this
              exact q ⟨a4, a5⟩
            · exact h3 ⟨i, p', by omega, a2, a3, a4, a5⟩
          · obtain ⟨i, p', a1, a2⟩ := h3
            exact Or.inr ⟨e, i, p', by omega, a2⟩
        have or0 : x ||| 0 = x := by
          rcases h3 with ⟨rfl, _⟩ | ⟨rfl, _⟩ <;> decide
        have or1 : x ||| 1 = 1 := by
          rcases h3 with ⟨rfl, _⟩ | ⟨rfl, _⟩ <;> decide
        by_cases k : kY p = 12
        · refine ⟨i2, br_t k ⟨i1, i2, ?_⟩⟩
          by_cases q : nY p = nI j
          · refine br_t q (nm_r or1 (nm_r (nI_1 l) (ih (l + 1) 1 (by omega) (by omega) (Or.inr ⟨rfl, l, p, by omega, p1, p2, k, q⟩))))
          · exact br_f q (nm_r or0 (nm_r (nI_1 l) (ih (l + 1) x (by omega) (by omega) (no (fun z => q z.2)))))
        · exact ⟨i2, br_f k (nm_r or0 (nm_r (nI_1 l) (ih (l + 1) x (by omega) (by omega) (no (fun z => k z.1)))))⟩
  exact ⟨h + 1, key (h + 1) 0 0 (by omega) (by omega) (Or.inl ⟨rfl, fun ⟨i, _, hi, _⟩ => by omega⟩)⟩
theorem bl_lk0 (So : bl_So sp ss so po sc) (hsc : sc ≤ 300) (hj : j < 8) (hs : sp j = 0) : ∀ (K : Nat) (e : Int32), K ≤ sc → bl_sc K e →
    (∃ m, m < sc ∧ (∀ (post : Int32 → Prop) (n x : Nat), K < n → x + K ≤ 300 → post (nI m) → wX_scopeOf_5 post (nI j) dl lr lc xst xd xcl xsc xm xa xs xb xg xe kX vX df pr sp pl th fc fs fb fd fv fe kp kv cc cs ss sv so n e (nI x)) ∧ (∀ (post : Int32 → Prop) (n : Nat), K < n → post (nI (32 + m)) → wY_placeFor_2 post (nI j) yen ycl yw xb xst ym ya ys yk yv yc yt rk rv kY nY en ln pr sp pk pv th ss po so cy cb cs gt ph ge gk gv bp ok ov ob n e))
    ∨ ((∀ (post : Int32 → Prop) (n x : Nat), K < n → x + K ≤ 300 → post (-1) → wX_scopeOf_5 post (nI j) dl lr lc xst xd xcl xsc xm xa xs xb xg xe kX vX df pr sp pl th fc fs fb fd fv fe kp kv cc cs ss sv so n e (nI x)) ∧ (∀ (post : Int32 → Prop) (n : Nat), K < n → wpY_present post (yen, ycl, yw, xb, xst, ym, ya, ys, yk, yv, yc, yt, rk, rv, kY, nY, en, ln, pr, sp, pk, pv, th, ss, po, so, cy, cb, cs, gt, ph, ge, gk, gv, bp, ok, ov, ob) (nI j) → wY_placeFor_2 post (nI j) yen ycl yw xb xst ym ya ys yk yv yc yt rk rv kY nY en ln pr sp pk pv th ss po so cy cb cs gt ph ge gk gv bp ok ov ob n e)) := by
  have neg : ∀ K : Nat, (∀ (post : Int32 → Prop) (n x : Nat), K < n → x + K ≤ 300 → post (-1) → wX_scopeOf_5 post (nI j) dl lr lc xst xd xcl xsc xm xa xs xb xg xe kX vX df pr sp pl th fc fs fb fd fv fe kp kv cc cs ss sv so n (-1) (nI x)) ∧ (∀ (post : Int32 → Prop) (n : Nat), K < n → wpY_present post (yen, ycl, yw, xb, xst, ym, ya, ys, yk, yv, yc, yt, rk, rv, kY, nY, en, ln, pr, sp, pk, pv, th, ss, po, so, cy, cb, cs, gt, ph, ge, gk, gv, bp, ok, ov, ob) (nI j) → wY_placeFor_2 post (nI j) yen ycl yw xb xst ym ya ys yk yv yc yt rk rv kY nY en ln pr sp pk pv th ss po so cy cb cs gt ph ge gk gv bp ok ov ob n (-1)) := by
    intro K
    refine ⟨fun post n x hn _ hp => ?_, fun post n hn hp => ?_⟩
    · obtain ⟨n, rfl⟩ : ∃ n', n = n' + 1 := ⟨n - 1, by omega⟩
      exact br_c (fun _ => hp) (fun _ => br_t rfl hp)
    · obtain ⟨n, rfl⟩ : ∃ n', n = n' + 1 := ⟨n - 1, by omega⟩
      exact br_t (by decide) hp
  intro K
  induction K with
  | zero =>
    intro e _ he
    rcases he with rfl | ⟨i, hi, _⟩
    · exact Or.inr (neg 0)
    · omega
  | succ K ih =>
    intro e hK he
    rcases he with rfl | ⟨i, hi, rfl⟩
    · exact Or.inr (neg (K + 1))
    · obtain ⟨s1, s2, j', j1, j2, j3⟩ := So i (by omega)
      have v8 : vp_in (nI j) 8 := vp_in_nI hj (by decide)
      have vX3 : vp_in (nI i) 300 := vp_in_nI (by omega) (by decide)
      have vY3 : vp_in (nI i) 310 := vp_in_nI (by omega) (by decide)
      have ci : (nI i).toNatClampNeg = i := nI_clamp (by omega)
      have cj : (nI j).toNatClampNeg = j := nI_clamp (by omega)
      by_cases c : ss i = nI j
      · refine Or.inl ⟨i, by omega, fun post n x hn hx hp => ?_, fun post n hn hp => ?_⟩
        · obtain ⟨n, rfl⟩ : ∃ n', n = n' + 1 := ⟨n - 1, by omega⟩
          refine br_f (nI_ge (b := 300) (by omega) (by decide)) (br_f (bl_neg1 (by omega)) ⟨vX3, ?_⟩)
          rw [ci]
          exact br_t c hp
        · obtain ⟨n, rfl⟩ : ∃ n', n = n' + 1 := ⟨n - 1, by omega⟩
          refine br_f (nI_pos (by omega)) ⟨v8, ?_⟩
          rw [ci, cj]
          refine br_t hs ⟨vY3, br_t c ⟨vY3, ?_⟩⟩
          rw [s2]; exact hp
      · have st := ih (so i) (by omega) (bl_sc_up (by omega) s1)
        have goX : ∀ (post : Int32 → Prop) (n x : Nat), x + (K + 1) ≤ 300 → wX_scopeOf_5 post (nI j) dl lr lc xst xd xcl xsc xm xa xs xb xg xe kX vX df pr sp pl th fc fs fb fd fv fe kp kv cc cs ss sv so n (so i) (nI (x + 1)) → wX_scopeOf_5 post (nI j) dl lr lc xst xd xcl xsc xm xa xs xb xg xe kX vX df pr sp pl th fc fs fb fd fv fe kp kv cc cs ss sv so (n + 1) (nI i) (nI x) := by
          intro post n x hx hw
          refine br_f (nI_ge (b := 300) (by omega) (by decide)) (br_f (bl_neg1 (by omega)) ⟨vX3, ?_⟩)
          rw [ci]
          exact br_f c ⟨vX3, nm_e (nm_r (nI_1 x) hw)⟩
        have goY : ∀ (post : Int32 → Prop) (n : Nat), wY_placeFor_2 post (nI j) yen ycl yw xb xst ym ya ys yk yv yc yt rk rv kY nY en ln pr sp pk pv th ss po so cy cb cs gt ph ge gk gv bp ok ov ob n (so i) → wY_placeFor_2 post (nI j) yen ycl yw xb xst ym ya ys yk yv yc yt rk rv kY nY en ln pr sp pk pv th ss po so cy cb cs gt ph ge gk gv bp ok ov ob (n + 1) (nI i) := by
          intro post n hw
          refine br_f (nI_pos (by omega)) ⟨v8, ?_⟩
          rw [ci, cj]
          exact br_t hs ⟨vY3, br_f c ⟨vY3, nm_e hw⟩⟩
        rcases st with ⟨m, hm, a, b⟩ | ⟨a, b⟩
        · refine Or.inl ⟨m, hm, fun post n x hn hx hp => ?_, fun post n hn hp => ?_⟩
          · obtain ⟨n, rfl⟩ : ∃ n', n = n' + 1 := ⟨n - 1, by omega⟩
            exact goX post n x hx (a post n (x + 1) (by omega) (by omega) hp)
          · obtain ⟨n, rfl⟩ : ∃ n', n = n' + 1 := ⟨n - 1, by omega⟩
            exact goY post n (b post n (by omega) hp)
        · refine Or.inr ⟨fun post n x hn hx hp => ?_, fun post n hn hp => ?_⟩
          · obtain ⟨n, rfl⟩ : ∃ n', n = n' + 1 := ⟨n - 1, by omega⟩
            exact goX post n x hx (a post n (x + 1) (by omega) (by omega) hp)
          · obtain ⟨n, rfl⟩ : ∃ n', n = n' + 1 := ⟨n - 1, by omega⟩
            exact goY post n (b post n (by omega) hp)
theorem bl_lk1 (So : bl_So sp ss so po sc) (hsc : sc ≤ 300) (hj : j < 8) (hs : ¬ sp j = 0) {post : Int32 → Prop} (hp : post (-1)) : ∀ (K : Nat) (e : Int32), K ≤ sc → bl_sc K e → ∀ n x : Nat, K < n → x + K ≤ 300 → wX_scopeOf_5 post (nI j) dl lr lc xst xd xcl xsc xm xa xs xb xg xe kX vX df pr sp pl th fc fs fb fd fv fe kp kv cc cs ss sv so n e (nI x) := by
  intro K
  induction K with
  | zero =>
    intro e _ he n x hn _
    obtain ⟨n, rfl⟩ : ∃ n', n = n' + 1 := ⟨n - 1, by omega⟩
    rcases he with rfl | ⟨i, hi, _⟩
    · exact br_c (fun _ => hp) (fun _ => br_t rfl hp)
    · omega
  | succ K ih =>
    intro e hK he n x hn hx
    obtain ⟨n, rfl⟩ : ∃ n', n = n' + 1 := ⟨n - 1, by omega⟩
    rcases he with rfl | ⟨i, hi, rfl⟩
    · exact br_c (fun _ => hp) (fun _ => br_t rfl hp)
    · obtain ⟨s1, s2, j', j1, j2, j3⟩ := So i (by omega)
      have c : ¬ ss i = nI j := by
        intro c
        rw [j2, nI_eq (by omega) (by omega)] at c
        rw [c] at j3
        exact hs j3
      refine br_f (nI_ge (b := 300) (by omega) (by decide)) (br_f (bl_neg1 (by omega)) ⟨vp_in_nI (by omega) (by decide), ?_⟩)
      rw [nI_clamp (by omega)]
      exact br_f c ⟨vp_in_nI (by omega) (by decide), nm_e (nm_r (nI_1 x) (ih (so i) (by omega) (bl_sc_up (by omega) s1) n (x + 1) (by omega) (by omega)))⟩
/-- where a symbol is found: in a scope, or at its present place -/
theorem bl_look {e : Int32} (So : bl_So sp ss so po sc) (hsc : sc ≤ 300) (hj : j < 8) (he : bl_sc sc e) :
    (∃ m, m < sc ∧ (∀ post : Int32 → Prop, post (nI m) → wpX_scopeOf post (dl, lr, lc, xst, xd, xcl, xsc, xm, xa, xs, xb, xg, xe, kX, vX, df, pr, sp, pl, th, fc, fs, fb, fd, fv, fe, kp, kv, cc, cs, ss, sv, so) (nI j) e) ∧ (∀ post : Int32 → Prop, post (nI (32 + m)) → wpY_placeFor post (yen, ycl, yw, xb, xst, ym, ya, ys, yk, yv, yc, yt, rk, rv, kY, nY, en, ln, pr, sp, pk, pv, th, ss, po, so, cy, cb, cs, gt, ph, ge, gk, gv, bp, ok, ov, ob) (nI j) e))
    ∨ ((∀ post : Int32 → Prop, post (-1) → wpX_scopeOf post (dl, lr, lc, xst, xd, xcl, xsc, xm, xa, xs, xb, xg, xe, kX, vX, df, pr, sp, pl, th, fc, fs, fb, fd, fv, fe, kp, kv, cc, cs, ss, sv, so) (nI j) e) ∧ (∀ post : Int32 → Prop, wpY_present post (yen, ycl, yw, xb, xst, ym, ya, ys, yk, yv, yc, yt, rk, rv, kY, nY, en, ln, pr, sp, pk, pv, th, ss, po, so, cy, cb, cs, gt, ph, ge, gk, gv, bp, ok, ov, ob) (nI j) → wpY_placeFor post (yen, ycl, yw, xb, xst, ym, ya, ys, yk, yv, yc, yt, rk, rv, kY, nY, en, ln, pr, sp, pk, pv, th, ss, po, so, cy, cb, cs, gt, ph, ge, gk, gv, bp, ok, ov, ob) (nI j) e)) := by
  by_cases hs : sp j = 0
  · rcases bl_lk0 So hsc hj hs sc e (Nat.le_refl _) he with ⟨m, hm, a, b⟩ | ⟨a, b⟩
    · exact Or.inl ⟨m, hm, fun post hp => ⟨sc + 1, a post (sc + 1) 0 (by omega) (by omega) hp⟩, fun post hp => ⟨sc + 1, b post (sc + 1) (by omega) hp⟩⟩
    · exact Or.inr ⟨fun post hp => ⟨sc + 1, a post (sc + 1) 0 (by omega) (by omega) hp⟩, fun post hp => ⟨sc + 1, b post (sc + 1) (by omega) hp⟩⟩
  · refine Or.inr ⟨fun post hp => ⟨sc + 1, bl_lk1 So hsc hj hs hp sc e (Nat.le_refl _) he (sc + 1) 0 (by omega) (by omega)⟩, fun post hp => ⟨1, ?_⟩⟩
    refine br_c (fun _ => hp) (fun _ => ⟨vp_in_nI hj (by decide), br_f ?_ hp⟩)
    rw [nI_clamp (by omega)]; exact hs
/-- both sides bind what is given -/
theorem bl_bind {o tk : Int32} (So : bl_So sp ss so po sc) (P : bl_Po cl pl pk pv) (V : bl_Vo cl sc sv pk pv) (hsc : sc < 300) (hd : d < 300) (hw : w < 320) (hj : j < 8) (hb : b < 3) (ho : bl_sc sc o) (hg : bl_vg cl xg yk yv) (k1 : kp d = -1) (k2 : bp w = -1) :
    ∃ (pl' : Nat → Int64) (pk' pv' ss' : Nat → Int32) (sv' : Nat → Int64) (so' po' kp' : Nat → Int32) (kv' : Nat → Int64) (bp' ok' ov' : Nat → Int32) (sc' : Nat) (i : Int32), bl_So sp ss' so' po' sc' ∧ bl_Po cl pl' pk' pv' ∧ bl_Vo cl sc' sv' pk' pv' ∧ sc ≤ sc' ∧ sc' ≤ sc + 1 ∧ bl_sc sc' i ∧ bl_bd cl (kp' d) (kv' d) (bp' w) (ok' w) (ov' w)
      ∧ (∀ i, i ≠ d → kp' i = kp i ∧ kv' i = kv i) ∧ (∀ i, i ≠ w → bp' i = bp i ∧ ok' i = ok i ∧ ov' i = ov i)
      ∧ (∀ post : Int32 → SX → Prop, post i (dl, lr, lc, xst, (nI (d + 1)), xcl, (nI sc'), xm, xa, xs, (nI b), xg, xe, kX, vX, df, pr, sp, pl', th, fc, fs, fb, fd, fv, fe, kp', kv', cc, cs, ss', sv', so') → wpX_bind post (dl, lr, lc, xst, (nI (d + 1)), xcl, (nI sc), xm, xa, xs, (nI b), xg, xe, kX, vX, df, pr, sp, pl, th, fc, fs, fb, fd, fv, fe, kp, kv, cc, cs, ss, sv, so) (nI j) o) ∧ (∀ post : SY → Prop, post ((nI sc'), ycl, yw, (nI b), xst, 1, tk, i, yk, yv, yc, yt, rk, rv, kY, nY, en, ln, pr, sp, pk', pv', th, ss', po', so', cy, cb, cs, gt, ph, ge, gk, gv, bp', ok', ov', ob) → wpY_bind post ((nI sc), ycl, yw, (nI b), xst, ym, ya, ys, yk, yv, yc, yt, rk, rv, kY, nY, en, ln, pr, sp, pk, pv, th, ss, po, so, cy, cb, cs, gt, ph, ge, gk, gv, bp, ok, ov, ob) (nI w) (nI j) tk o) := by
  have v8 : vp_in (nI j) 8 := vp_in_nI hj (by decide)
  have cj : (nI j).toNatClampNeg = j := nI_clamp (by omega)
  have cs : (nI sc).toNatClampNeg = sc := nI_clamp (by omega)
  have cd : (nI d).toNatClampNeg = d := nI_clamp (by omega)
  have cw : (nI w).toNatClampNeg = w := nI_clamp (by omega)
  by_cases hs : sp j = 0
  · have e32 : (32 : Int32) + nI sc = nI (32 + sc) := nI_add 32 sc
    refine ⟨pl, upd pk (32 + sc) yk, upd pv (32 + sc) yv, upd ss sc (nI j), vp_updL sv sc xg, upd so sc o, upd po sc (nI (32 + sc)), kp, kv, bp, ok, ov, sc + 1, nI sc, bl_So_push So ho hj hs, bl_Po_sc P sc yk yv, bl_Vo_set V sc (fun i h1 h2 => by omega) (bl_vg_r hg), by omega, by omega, Or.inr ⟨sc, by omega, rfl⟩, Or.inl ⟨k1, k2⟩, fun _ _ => ⟨rfl, rfl⟩, fun _ _ => ⟨rfl, rfl, rfl⟩, fun post hp => ?_, fun post hp => ?_⟩
    · have i3 : vp_in (nI sc) 300 := vp_in_nI hsc (by decide)
      refine ⟨v8, ?_⟩
      rw [cj, cs]
      exact br_t hs ⟨i3, nm_e ⟨i3, nm_e ⟨i3, nm_e (nm_r (nI_1 sc) hp)⟩⟩⟩
    · have i3 : vp_in (nI sc) 310 := vp_in_nI (by omega) (by decide)
      have i4 : vp_in (nI (32 + sc)) 340 := vp_in_nI (by omega) (by decide)
      refine ⟨v8, ?_⟩
      rw [cj, cs, e32]
      refine br_t hs ⟨i3, nm_e ⟨i3, nm_e ⟨i3, nm_e ⟨i4, nm_r (e' := upd pk (32 + sc) yk) (by rw [nI_clamp (by omega)]) ⟨i4, nm_r (e' := upd pv (32 + sc) yv) (by rw [nI_clamp (by omega)]) (nm_r (nI_1 sc) hp)⟩⟩⟩⟩⟩
  · obtain ⟨p, hp0, ep⟩ := bl_pp (th := th) hj hb
    have i3 : vp_in (nI p) 32 := vp_in_nI hp0 (by decide)
    have i4 : vp_in (nI p) 340 := vp_in_nI (by omega) (by decide)
    have cp : (nI p).toNatClampNeg = p := nI_clamp (by omega)
    refine ⟨vp_updL pl p xg, upd pk p yk, upd pv p yv, ss, sv, so, po, upd kp d (nI p), vp_updL kv d (pl p), upd bp w (nI p), upd ok w (pk p), upd ov w (pv p), sc, o, So, bl_Po_set P p (bl_vg_r hg), bl_Vo_pl V hp0 _ _, by omega, by omega, ho, Or.inr ⟨p, hp0, pk_us, pk_us, ?_⟩, fun i hi => ⟨pk_un hi, pk_uLn hi⟩, fun i hi => ⟨pk_un hi, pk_un hi, pk_un hi⟩, fun post hp => ?_, fun post hp => ?_⟩
    · rw [pk_uLs, pk_us, pk_us]; exact P p hp0
    · have i5 : vp_in (nI (d + 1) - 1) 300 := by rw [nI_pred]; exact vp_in_nI hd (by decide)
      refine ⟨v8, ?_⟩
      rw [cj]
      refine br_f hs (bl_x_pp hj hb ?_)
      rw [ep]
      refine ⟨i5, nm_r (e' := upd kp d (nI p)) (by rw [nI_pred, cd]) ⟨i3, i5, nm_r (e' := vp_updL kv d (pl p)) (by rw [nI_pred, cd, cp]) ⟨i3, nm_r (e' := vp_updL pl p xg) (by rw [cp]) hp⟩⟩⟩
    · have i5 : vp_in (nI w) 320 := vp_in_nI hw (by decide)
      refine ⟨v8, ?_⟩
      rw [cj]
      refine br_f hs (bl_y_pp hj hb ?_)
      rw [ep]
      refine ⟨i5, nm_r (e' := upd bp w (nI p)) (by rw [cw]) ⟨i4, i5, nm_r (e' := upd ok w (pk p)) (by rw [cw, cp]) ⟨i4, i5, nm_r (e' := upd ov w (pv p)) (by rw [cw, cp]) ⟨i4, nm_r (e' := upd pk p yk) (by rw [cp]) ⟨i4, nm_r (e' := upd pv p yv) (by rw [cp]) hp⟩⟩⟩⟩⟩
end
end
section
/-! the relation between calls, and the small methods -/
def bl_ls (lr : Int64) (lc rk rv : Int32) : Prop := (rk = 0 ∧ lr = rv.toInt64 ∧ lc = 0) ∨ (rk = 1 ∧ lr = 10000000000 ∧ lc = 1) ∨ (rk = 2 ∧ lr = 10000000000 ∧ lc = 0)
/-- the functions that are defined -/
def bl_Fn (L : Nat → Nat) (df ln pr : Nat → Int32) : Prop := (∀ k, k < 4 → (df k = 0 ∧ L (k + 1) = 0 ∧ ln k = 0) ∨ (df k = 1 ∧ 0 < L (k + 1) ∧ ln k = nI (L (k + 1)))) ∧ (∀ k, k < 4 → ∃ j, j < 8 ∧ pr k = nI j)
def bl_Be (L : Nat → Nat) (dl lc rk rv : Int32) (lr : Int64) (kX vX df pr kY nY en ln pk pv : Nat → Int32) (pl : Nat → Int64) : Prop :=
  dl = nI (L 0) ∧ ln 4 = nI (L 0) ∧ bl_Ko L kX vX kY nY ∧ (∀ r, 0 < r → r < 5 → 0 < L r → bl_Re L kX en r) ∧ bl_Fn L df ln pr ∧ bl_Po 0 pl pk pv ∧ bl_ls lr lc rk rv
def i_Rel (_ : Nat) (u : SX) (v : SY) : Prop :=
  match u, v with
  | (dl, lr, lc, xst, xd, xcl, xsc, xm, xa, xs, xb, xg, xe, kX, vX, df, pr, sp, pl, th, fc, fs, fb, fd, fv, fe, kp, kv, cc, cs, ss, sv, so), (yen, ycl, yw, xb', xst', ym, ya, ys, yk, yv, yc, yt, rk, rv, kY, nY, en, ln, pr', sp', pk, pv, th', ss', po, so', cy, cb, cs', gt, ph, ge, gk, gv, bp, ok, ov, ob) => (pr' = pr ∧ sp' = sp ∧ th' = th ∧ ss' = ss ∧ so' = so ∧ cs' = cs ∧ xst' = xst) ∧ ∃ L : Nat → Nat, bl_Be L dl lc rk rv lr kX vX df pr kY nY en ln pk pv pl
theorem i_up {k : Nat} {u : SX} {v : SY} (h : i_Rel k u v) : i_Rel (k + 3) u v := h
theorem bl_k19 (k : Int32) : k < 0 ∨ 18 < k ∨ k = 0 ∨ k = 1 ∨ k = 2 ∨ k = 3 ∨ k = 4 ∨ k = 5 ∨ k = 6 ∨ k = 7 ∨ k = 8 ∨ k = 9 ∨ k = 10 ∨ k = 11 ∨ k = 12 ∨ k = 13 ∨ k = 14 ∨ k = 15 ∨ k = 16 ∨ k = 17 ∨ k = 18 := by
  rcases pk_ix k (n := 19) (by decide) with h | h | ⟨j, hj, rfl⟩
  · exact Or.inl h
  · refine Or.inr (Or.inl ?_)
    rw [Int32.lt_iff_toInt_lt]
    rw [Int32.le_iff_toInt_le, nI_toInt (by decide)] at h
    have : (18 : Int32).toInt = 18 := by decide
    omega
  · refine Or.inr (Or.inr ?_)
    have : ∀ j, j < 19 → nI j = 0 ∨ nI j = 1 ∨ nI j = 2 ∨ nI j = 3 ∨ nI j = 4 ∨ nI j = 5 ∨ nI j = 6 ∨ nI j = 7 ∨ nI j = 8 ∨ nI j = 9 ∨ nI j = 10 ∨ nI j = 11 ∨ nI j = 12 ∨ nI j = 13 ∨ nI j = 14 ∨ nI j = 15 ∨ nI j = 16 ∨ nI j = 17 ∨ nI j = 18 := by decide +kernel
    exact this j hj
theorem bl_tk_in {k v : Int32} (h : bl_tk k v) : ¬ k < 0 ∧ ¬ 18 < k := by
  rcases h with (h | h | h | h | h | h | h | h | h | h) | ⟨(h | h | h | h | h), _⟩ | ⟨(h | h | h), _⟩ | ⟨h, _⟩ <;> subst h <;> decide
/-- a value below a bound -/
theorem bl_bnd {A1 A0 : Prop} {v b : Int32} (B : Nat) (hb : b = nI B) (hB : B < 2 ^ 31) (h1 : (∃ j, j < B ∧ v = nI j) → A1) (h0 : ¬ (∃ j, j < B ∧ v = nI j) → A0) : (v < 0 → A0) ∧ (¬ v < 0 → ((b ≤ v → A0) ∧ (¬ b ≤ v → A1))) := by
  subst hb
  rcases pk_ix v (n := B) hB with h | h | ⟨j, hj, rfl⟩
  · refine br_t h (h0 ?_)
    rintro ⟨j, hj, rfl⟩
    exact nI_pos (by omega) h
  · refine br_c (fun n => h0 ?_) (fun n => br_t h (h0 ?_))
    · rintro ⟨j, hj, rfl⟩; exact nI_pos (by omega) n
    · rintro ⟨j, hj, rfl⟩; exact nI_ge (by omega) (by omega) h
  · exact br_f (nI_pos (by omega)) (br_f (nI_ge hj hB) (h1 ⟨j, hj, rfl⟩))
theorem bl_tk8i {k v : Int32} (hk : k = 1 ∨ k = 2 ∨ k = 3 ∨ k = 4 ∨ k = 17) : bl_tk k v ↔ ∃ j, j < 8 ∧ v = nI j := ⟨fun h => bl_tk8 h hk, fun h => Or.inr (Or.inl ⟨hk, h⟩)⟩
theorem bl_tk4i {k v : Int32} (hk : k = 6 ∨ k = 12 ∨ k = 13) : bl_tk k v ↔ ∃ j, j < 4 ∧ v = nI j := ⟨fun h => bl_tk4 h hk, fun h => Or.inr (Or.inr (Or.inl ⟨hk, h⟩))⟩
theorem bl_tk3i {k v : Int32} (hk : k = 16) : bl_tk k v ↔ ∃ j, j < 3 ∧ v = nI j := ⟨fun h => bl_tk16 h hk, fun h => Or.inr (Or.inr (Or.inr ⟨hk, h⟩))⟩
theorem bl_x_tok {post : Int32 → Prop} {k v : Int32} (h1 : bl_tk k v → post 1) (h0 : ¬ bl_tk k v → post 0) : wpX_isToken post k v := by
  rcases bl_k19 k with h | h | h
  · exact br_t h (h0 (fun z => (bl_tk_in z).1 h))
  · refine br_c (fun _ => h0 (fun z => (bl_tk_in z).2 h)) (fun _ => br_f ?_ (h0 (fun z => (bl_tk_in z).2 h)))
    exact Int32.not_le.mpr h
  · rcases h with h | h | h | h | h | h | h | h | h | h | h | h | h | h | h | h | h | h | h
    · subst h; simp [wpX_isToken, wpX_valueBound]; exact h1 (Or.inl (by decide))
    · subst h; rw [bl_tk8i (by decide)] at h1 h0; exact br_f (by decide) (br_t (by decide) (br_f (by decide) (br_f (by decide) (br_t rfl (br_f (by decide) (bl_bnd 8 rfl (by decide) h1 h0))))))
    · subst h; rw [bl_tk8i (by decide)] at h1 h0; exact br_f (by decide) (br_t (by decide) (br_f (by decide) (br_f (by decide) (br_f (by decide) (br_t rfl (br_f (by decide) (bl_bnd 8 rfl (by decide) h1 h0)))))))
    · subst h; rw [bl_tk8i (by decide)] at h1 h0; exact br_f (by decide) (br_t (by decide) (br_f (by decide) (br_f (by decide) (br_f (by decide) (br_f (by decide) (br_t rfl (br_f (by decide) (bl_bnd 8 rfl (by decide) h1 h0))))))))
    · subst h; rw [bl_tk8i (by decide)] at h1 h0; exact br_f (by decide) (br_t (by decide) (br_f (by decide) (br_f (by decide) (br_f (by decide) (br_f (by decide) (br_f (by decide) (br_t rfl (br_f (by decide) (bl_bnd 8 rfl (by decide) h1 h0)))))))))
    · subst h; simp [wpX_isToken, wpX_valueBound]; exact h1 (Or.inl (by decide))
    · subst h; rw [bl_tk4i (by decide)] at h1 h0; exact br_f (by decide) (br_t (by decide) (br_f (by decide) (br_f (by decide) (br_f (by decide) (br_f (by decide) (br_f (by decide) (br_f (by decide) (br_f (by decide) (br_t rfl (br_f (by decide) (bl_bnd 4 rfl (by decide) h1 h0)))))))))))
    · subst h; simp [wpX_isToken, wpX_valueBound]; exact h1 (Or.inl (by decide))
    · subst h; simp [wpX_isToken, wpX_valueBound]; exact h1 (Or.inl (by decide))
    · subst h; simp [wpX_isToken, wpX_valueBound]; exact h1 (Or.inl (by decide))
    · subst h; simp [wpX_isToken, wpX_valueBound]; exact h1 (Or.inl (by decide))
    · subst h; simp [wpX_isToken, wpX_valueBound]; exact h1 (Or.inl (by decide))
    · subst h; rw [bl_tk4i (by decide)] at h1 h0; exact br_f (by decide) (br_t (by decide) (br_f (by decide) (br_f (by decide) (br_f (by decide) (br_f (by decide) (br_f (by decide) (br_f (by decide) (br_f (by decide) (br_f (by decide) (br_f (by decide) (br_f (by decide) (br_f (by decide) (br_f (by decide) (br_f (by decide) (br_t rfl (br_f (by decide) (bl_bnd 4 rfl (by decide) h1 h0)))))))))))))))))
    · subst h; rw [bl_tk4i (by decide)] at h1 h0; exact br_f (by decide) (br_t (by decide) (br_f (by decide) (br_f (by decide) (br_f (by decide) (br_f (by decide) (br_f (by decide) (br_f (by decide) (br_f (by decide) (br_f (by decide) (br_f (by decide) (br_f (by decide) (br_f (by decide) (br_f (by decide) (br_f (by decide) (br_f (by decide) (br_t rfl (br_f (by decide) (bl_bnd 4 rfl (by decide) h1 h0))))))))))))))))))
    · subst h; simp [wpX_isToken, wpX_valueBound]; exact h1 (Or.inl (by decide))
    · subst h; simp [wpX_isToken, wpX_valueBound]; exact h1 (Or.inl (by decide))
    · subst h; rw [bl_tk3i (by decide)] at h1 h0; exact br_f (by decide) (br_t (by decide) (br_f (by decide) (br_f (by decide) (br_f (by decide) (br_f (by decide) (br_f (by decide) (br_f (by decide) (br_f (by decide) (br_f (by decide) (br_f (by decide) (br_f (by decide) (br_f (by decide) (br_f (by decide) (br_f (by decide) (br_f (by decide) (br_f (by decide) (br_f (by decide) (br_f (by decide) (br_t rfl (br_f (by decide) (bl_bnd 3 rfl (by decide) h1 h0)))))))))))))))))))))
    · subst h; rw [bl_tk8i (by decide)] at h1 h0; exact br_f (by decide) (br_t (by decide) (br_f (by decide) (br_f (by decide) (br_f (by decide) (br_f (by decide) (br_f (by decide) (br_f (by decide) (br_f (by decide) (br_f (by decide) (br_f (by decide) (br_f (by decide) (br_f (by decide) (br_f (by decide) (br_f (by decide) (br_f (by decide) (br_f (by decide) (br_f (by decide) (br_f (by decide) (br_f (by decide) (br_t rfl (br_f (by decide) (bl_bnd 8 rfl (by decide) h1 h0))))))))))))))))))))))
    · subst h; simp [wpX_isToken, wpX_valueBound]; exact h1 (Or.inl (by decide))
section
variable {dl lc xst xd xcl xsc xm xa xs xb xe yen ycl yw ym ya ys yk yv yc yt rk rv : Int32}
variable {lr xg : Int64}
variable {kX vX df pr sp th fc fs fb fd fe kp cc cs ss so kY nY en ln pk pv po cy cb gt ph ge gk gv bp ok ov ob : Nat → Int32}
variable {pl fv kv sv : Nat → Int64}
variable {yb : Int32} {L : Nat → Nat}
theorem bl_y54 {post : Int32 → SY → Prop} {k v z : Int32} (h : k < 0 ∨ 18 < k) (hp : post (-1) (yen, ycl, yw, yb, xst, ym, ya, ys, yk, yv, yc, yt, rk, rv, kY, nY, en, ln, pr, sp, pk, pv, th, ss, po, so, cy, cb, cs, gt, ph, ge, gk, gv, bp, ok, ov, ob)) : wY_token_54 post k v z yen ycl yw yb xst ym ya ys yk yv yc yt rk rv kY nY en ln pr sp pk pv th ss po so cy cb cs gt ph ge gk gv bp ok ov ob := by
  rcases h with h | h
  · exact br_t h (br_t rfl hp)
  · refine br_c (fun _ => br_t rfl hp) (fun _ => br_t ?_ (br_t rfl hp))
    rw [Int32.le_iff_toInt_le]
    rw [Int32.lt_iff_toInt_lt] at h
    have : (18 : Int32).toInt = 18 := by decide
    have : (19 : Int32).toInt = 19 := by decide
    omega
theorem bl_y54i {post : Int32 → SY → Prop} {k v z : Int32} (B : Nat) (hz : z = nI B) (hB : 0 < B) (hB2 : B < 2 ^ 31) (h1 : (∃ j, j < B ∧ v = nI j) → wY_token_76 post k v yen ycl yw yb xst ym ya ys yk yv yc yt rk rv kY nY en ln pr sp pk pv th ss po so cy cb cs gt ph ge gk gv bp ok ov ob) (h0 : ¬ (∃ j, j < B ∧ v = nI j) → post (-1) (yen, ycl, yw, yb, xst, ym, ya, ys, yk, yv, yc, yt, rk, rv, kY, nY, en, ln, pr, sp, pk, pv, th, ss, po, so, cy, cb, cs, gt, ph, ge, gk, gv, bp, ok, ov, ob)) (hk : ¬ k < 0) (hk2 : ¬ 19 ≤ k) : wY_token_54 post k v z yen ycl yw yb xst ym ya ys yk yv yc yt rk rv kY nY en ln pr sp pk pv th ss po so cy cb cs gt ph ge gk gv bp ok ov ob := by
  refine br_f hk (br_f hk2 (br_f (by decide) (br_f ?_ ?_)))
  · rw [hz]; exact nI_nle hB hB2
  · have := bl_bnd (A1 := wY_token_76 post k v yen ycl yw yb xst ym ya ys yk yv yc yt rk rv kY nY en ln pr sp pk pv th ss po so cy cb cs gt ph ge gk gv bp ok ov ob) (A0 := post (-1) (yen, ycl, yw, yb, xst, ym, ya, ys, yk, yv, yc, yt, rk, rv, kY, nY, en, ln, pr, sp, pk, pv, th, ss, po, so, cy, cb, cs, gt, ph, ge, gk, gv, bp, ok, ov, ob)) (v := v) B hz hB2 h1 h0
    exact ⟨fun a => br_t rfl (this.1 a), fun a => ⟨fun b => br_t rfl ((this.2 a).1 b), fun b => br_f (by decide) ((this.2 a).2 b)⟩⟩
theorem bl_y540 {post : Int32 → SY → Prop} {k v : Int32} (h1 : wY_token_76 post k v yen ycl yw yb xst ym ya ys yk yv yc yt rk rv kY nY en ln pr sp pk pv th ss po so cy cb cs gt ph ge gk gv bp ok ov ob) (hk : ¬ k < 0) (hk2 : ¬ 19 ≤ k) : wY_token_54 post k v 0 yen ycl yw yb xst ym ya ys yk yv yc yt rk rv kY nY en ln pr sp pk pv th ss po so cy cb cs gt ph ge gk gv bp ok ov ob :=
  br_f hk (br_f hk2 (br_f (by decide) (br_t (by decide) h1)))
theorem bl_y_tok {post : Int32 → SY → Prop} {k v : Int32} (h1 : bl_tk k v → wY_token_76 post k v yen ycl yw yb xst ym ya ys yk yv yc yt rk rv kY nY en ln pr sp pk pv th ss po so cy cb cs gt ph ge gk gv bp ok ov ob) (h0 : ¬ bl_tk k v → post (-1) (yen, ycl, yw, yb, xst, ym, ya, ys, yk, yv, yc, yt, rk, rv, kY, nY, en, ln, pr, sp, pk, pv, th, ss, po, so, cy, cb, cs, gt, ph, ge, gk, gv, bp, ok, ov, ob)) : wpY_token post (yen, ycl, yw, yb, xst, ym, ya, ys, yk, yv, yc, yt, rk, rv, kY, nY, en, ln, pr, sp, pk, pv, th, ss, po, so, cy, cb, cs, gt, ph, ge, gk, gv, bp, ok, ov, ob) k v := by
  rcases bl_k19 k with h | h | h
  · have q : ∀ z, wY_token_54 post k v z yen ycl yw yb xst ym ya ys yk yv yc yt rk rv kY nY en ln pr sp pk pv th ss po so cy cb cs gt ph ge gk gv bp ok ov ob := fun z => bl_y54 (Or.inl h) (h0 (fun z => (bl_tk_in z).1 h))
    have q0 : ((k = 17 → (wY_token_16 post k v yen ycl yw yb xst ym ya ys yk yv yc yt rk rv kY nY en ln pr sp pk pv th ss po so cy cb cs gt ph ge gk gv bp ok ov ob)) ∧ (¬ k = 17 → (((k = 6 → (wY_token_39 post k v yen ycl yw yb xst ym ya ys yk yv yc yt rk rv kY nY en ln pr sp pk pv th ss po so cy cb cs gt ph ge gk gv bp ok ov ob)) ∧ (¬ k = 6 → (((k = 12 → (wY_token_39 post k v yen ycl yw yb xst ym ya ys yk yv yc yt rk rv kY nY en ln pr sp pk pv th ss po so cy cb cs gt ph ge gk gv bp ok ov ob)) ∧ (¬ k = 12 → (((k = 13 → (wY_token_39 post k v yen ycl yw yb xst ym ya ys yk yv yc yt rk rv kY nY en ln pr sp pk pv th ss po so cy cb cs gt ph ge gk gv bp ok ov ob)) ∧ (¬ k = 13 → (((k = 16 → (wY_token_54 post k v 3 yen ycl yw yb xst ym ya ys yk yv yc yt rk rv kY nY en ln pr sp pk pv th ss po so cy cb cs gt ph ge gk gv bp ok ov ob)) ∧ (¬ k = 16 → (wY_token_54 post k v 0 yen ycl yw yb xst ym ya ys yk yv yc yt rk rv kY nY en ln pr sp pk pv th ss po so cy cb cs gt ph ge gk gv bp ok ov ob))))))))))))))) := br_c (fun _ => q 8) (fun _ => br_c (fun _ => q 4) (fun _ => br_c (fun _ => q 4) (fun _ => br_c (fun _ => q 4) (fun _ => br_c (fun _ => q 3) (fun _ => q 0)))))
    exact br_c (fun _ => br_t rfl q0) (fun _ => br_c (fun _ => br_t rfl q0) (fun _ => br_f (by decide) (q 8)))
  · have q : ∀ z, wY_token_54 post k v z yen ycl yw yb xst ym ya ys yk yv yc yt rk rv kY nY en ln pr sp pk pv th ss po so cy cb cs gt ph ge gk gv bp ok ov ob := fun z => bl_y54 (Or.inr h) (h0 (fun z => (bl_tk_in z).2 h))
    have q0 : ((k = 17 → (wY_token_16 post k v yen ycl yw yb xst ym ya ys yk yv yc yt rk rv kY nY en ln pr sp pk pv th ss po so cy cb cs gt ph ge gk gv bp ok ov ob)) ∧ (¬ k = 17 → (((k = 6 → (wY_token_39 post k v yen ycl yw yb xst ym ya ys yk yv yc yt rk rv kY nY en ln pr sp pk pv th ss po so cy cb cs gt ph ge gk gv bp ok ov ob)) ∧ (¬ k = 6 → (((k = 12 → (wY_token_39 post k v yen ycl yw yb xst ym ya ys yk yv yc yt rk rv kY nY en ln pr sp pk pv th ss po so cy cb cs gt ph ge gk gv bp ok ov ob)) ∧ (¬ k = 12 → (((k = 13 → (wY_token_39 post k v yen ycl yw yb xst ym ya ys yk yv yc yt rk rv kY nY en ln pr sp pk pv th ss po so cy cb cs gt ph ge gk gv bp ok ov ob)) ∧ (¬ k = 13 → (((k = 16 → (wY_token_54 post k v 3 yen ycl yw yb xst ym ya ys yk yv yc yt rk rv kY nY en ln pr sp pk pv th ss po so cy cb cs gt ph ge gk gv bp ok ov ob)) ∧ (¬ k = 16 → (wY_token_54 post k v 0 yen ycl yw yb xst ym ya ys yk yv yc yt rk rv kY nY en ln pr sp pk pv th ss po so cy cb cs gt ph ge gk gv bp ok ov ob))))))))))))))) := br_c (fun _ => q 8) (fun _ => br_c (fun _ => q 4) (fun _ => br_c (fun _ => q 4) (fun _ => br_c (fun _ => q 4) (fun _ => br_c (fun _ => q 3) (fun _ => q 0)))))
    exact br_c (fun _ => br_t rfl q0) (fun _ => br_c (fun _ => br_t rfl q0) (fun _ => br_f (by decide) (q 8)))
  · rcases h with h | h | h | h | h | h | h | h | h | h | h | h | h | h | h | h | h | h | h
    · subst h; exact br_t (by decide) (br_t rfl (br_f (by decide) (br_f (by decide) (br_f (by decide) (br_f (by decide) (br_f (by decide) (bl_y540 (h1 (Or.inl (by decide))) (by decide) (by decide))))))))
    · subst h; rw [bl_tk8i (by decide)] at h1 h0; exact br_f (by decide) (br_f (by decide) (br_f (by decide) (bl_y54i 8 rfl (by decide) (by decide) h1 h0 (by decide) (by decide))))
    · subst h; rw [bl_tk8i (by decide)] at h1 h0; exact br_f (by decide) (br_f (by decide) (br_f (by decide) (bl_y54i 8 rfl (by decide) (by decide) h1 h0 (by decide) (by decide))))
    · subst h; rw [bl_tk8i (by decide)] at h1 h0; exact br_f (by decide) (br_f (by decide) (br_f (by decide) (bl_y54i 8 rfl (by decide) (by decide) h1 h0 (by decide) (by decide))))
    · subst h; rw [bl_tk8i (by decide)] at h1 h0; exact br_f (by decide) (br_f (by decide) (br_f (by decide) (bl_y54i 8 rfl (by decide) (by decide) h1 h0 (by decide) (by decide))))
    · subst h; exact br_f (by decide) (br_t (by decide) (br_t rfl (br_f (by decide) (br_f (by decide) (br_f (by decide) (br_f (by decide) (br_f (by decide) (bl_y540 (h1 (Or.inl (by decide))) (by decide) (by decide)))))))))
    · subst h; rw [bl_tk4i (by decide)] at h1 h0; exact br_f (by decide) (br_t (by decide) (br_t rfl (br_f (by decide) (br_t rfl (bl_y54i 4 rfl (by decide) (by decide) h1 h0 (by decide) (by decide))))))
    · subst h; exact br_f (by decide) (br_t (by decide) (br_t rfl (br_f (by decide) (br_f (by decide) (br_f (by decide) (br_f (by decide) (br_f (by decide) (bl_y540 (h1 (Or.inl (by decide))) (by decide) (by decide)))))))))
    · subst h; exact br_f (by decide) (br_t (by decide) (br_t rfl (br_f (by decide) (br_f (by decide) (br_f (by decide) (br_f (by decide) (br_f (by decide) (bl_y540 (h1 (Or.inl (by decide))) (by decide) (by decide)))))))))
    · subst h; exact br_f (by decide) (br_t (by decide) (br_t rfl (br_f (by decide) (br_f (by decide) (br_f (by decide) (br_f (by decide) (br_f (by decide) (bl_y540 (h1 (Or.inl (by decide))) (by decide) (by decide)))))))))
    · subst h; exact br_f (by decide) (br_t (by decide) (br_t rfl (br_f (by decide) (br_f (by decide) (br_f (by decide) (br_f (by decide) (br_f (by decide) (bl_y540 (h1 (Or.inl (by decide))) (by decide) (by decide)))))))))
    · subst h; exact br_f (by decide) (br_t (by decide) (br_t rfl (br_f (by decide) (br_f (by decide) (br_f (by decide) (br_f (by decide) (br_f (by decide) (bl_y540 (h1 (Or.inl (by decide))) (by decide) (by decide)))))))))
    · subst h; rw [bl_tk4i (by decide)] at h1 h0; exact br_f (by decide) (br_t (by decide) (br_t rfl (br_f (by decide) (br_f (by decide) (br_t rfl (bl_y54i 4 rfl (by decide) (by decide) h1 h0 (by decide) (by decide)))))))
    · subst h; rw [bl_tk4i (by decide)] at h1 h0; exact br_f (by decide) (br_t (by decide) (br_t rfl (br_f (by decide) (br_f (by decide) (br_f (by decide) (br_t rfl (bl_y54i 4 rfl (by decide) (by decide) h1 h0 (by decide) (by decide))))))))
    · subst h; exact br_f (by decide) (br_t (by decide) (br_t rfl (br_f (by decide) (br_f (by decide) (br_f (by decide) (br_f (by decide) (br_f (by decide) (bl_y540 (h1 (Or.inl (by decide))) (by decide) (by decide)))))))))
    · subst h; exact br_f (by decide) (br_t (by decide) (br_t rfl (br_f (by decide) (br_f (by decide) (br_f (by decide) (br_f (by decide) (br_f (by decide) (bl_y540 (h1 (Or.inl (by decide))) (by decide) (by decide)))))))))
    · subst h; rw [bl_tk3i (by decide)] at h1 h0; exact br_f (by decide) (br_t (by decide) (br_t rfl (br_f (by decide) (br_f (by decide) (br_f (by decide) (br_f (by decide) (br_t rfl (bl_y54i 3 rfl (by decide) (by decide) h1 h0 (by decide) (by decide)))))))))
    · subst h; rw [bl_tk8i (by decide)] at h1 h0; exact br_f (by decide) (br_t (by decide) (br_t rfl (br_t rfl (bl_y54i 8 rfl (by decide) (by decide) h1 h0 (by decide) (by decide)))))
    · subst h; exact br_f (by decide) (br_t (by decide) (br_t rfl (br_f (by decide) (br_f (by decide) (br_f (by decide) (br_f (by decide) (br_f (by decide) (bl_y540 (h1 (Or.inl (by decide))) (by decide) (by decide)))))))))
end
theorem i_vc_wipe {k : Nat} {u : SX} {v : SY} (I : i_Rel k u v) (hk : k + 3 ≤ 1536) : wpX_wipe (fun r u' => wpY_wipe (fun r' v' => r' = r ∧ i_Rel (k + 3) u' v') v) u := by
  obtain ⟨dl, lr, lc, xst, xd, xcl, xsc, xm, xa, xs, xb, xg, xe, kX, vX, df, pr, sp, pl, th, fc, fs, fb, fd, fv, fe, kp, kv, cc, cs, ss, sv, so⟩ := u
  obtain ⟨yen, ycl, yw, xb', xst', ym, ya, ys, yk, yv, yc, yt, rk, rv, kY, nY, en, ln, pr', sp', pk, pv, th', ss', po, so', cy, cb, cs', gt, ph, ge, gk, gv, bp, ok, ov, ob⟩ := v
  obtain ⟨⟨rfl, rfl, rfl, rfl, rfl, rfl, rfl⟩, L, B⟩ := I
  obtain ⟨b1, b2, b3, b4, b5, b6, b7⟩ := B
  refine nm_e (nm_e ⟨b2.trans b1.symm, ⟨rfl, rfl, rfl, rfl, rfl, rfl, rfl⟩, fun r => if r = 0 then 0 else L r, rfl, rfl, ⟨fun r hr => ?_, b3.2⟩, fun r h0 hr hl => ?_, ⟨fun k hk => ?_, b5.2⟩, b6, b7⟩)
  · show (if r = 0 then 0 else L r) ≤ 48
    by_cases c : r = 0
    · rw [if_pos c]; omega
    · rw [if_neg c]; exact b3.1 r hr
  · have hl : 0 < (if r = 0 then 0 else L r) := hl
    rw [if_neg (by omega)] at hl
    refine bl_Re_cg ?_ (b3.1 r hr) (fun i _ => rfl) (fun i _ => rfl) (b4 r h0 hr hl)
    exact if_neg (by omega)
  · show (df k = 0 ∧ (if k + 1 = 0 then 0 else L (k + 1)) = 0 ∧ upd ln 4 0 k = 0) ∨ (df k = 1 ∧ 0 < (if k + 1 = 0 then 0 else L (k + 1)) ∧ upd ln 4 0 k = nI (if k + 1 = 0 then 0 else L (k + 1)))
    rw [if_neg (by omega), pk_un (by omega)]
    exact b5.1 k hk
theorem i_vc_result {k : Nat} {u : SX} {v : SY} (I : i_Rel k u v) (hk : k + 3 ≤ 1536) : wpX_result (fun r => wpY_result (fun r' => r' = r ∧ i_Rel (k + 3) u v) v) u := by
  obtain ⟨dl, lr, lc, xst, xd, xcl, xsc, xm, xa, xs, xb, xg, xe, kX, vX, df, pr, sp, pl, th, fc, fs, fb, fd, fv, fe, kp, kv, cc, cs, ss, sv, so⟩ := u
  obtain ⟨yen, ycl, yw, xb', xst', ym, ya, ys, yk, yv, yc, yt, rk, rv, kY, nY, en, ln, pr', sp', pk, pv, th', ss', po, so', cy, cb, cs', gt, ph, ge, gk, gv, bp, ok, ov, ob⟩ := v
  obtain ⟨⟨rfl, rfl, rfl, rfl, rfl, rfl, rfl⟩, L, B⟩ := I
  have J := B
  obtain ⟨b1, b2, b3, b4, b5, b6, b7⟩ := B
  rcases b7 with ⟨rfl, rfl, rfl⟩ | ⟨rfl, rfl, rfl⟩ | ⟨rfl, rfl, rfl⟩
  · exact br_t rfl ⟨rfl, ⟨rfl, rfl, rfl, rfl, rfl, rfl, rfl⟩, L, J⟩
  · exact br_f (by decide) ⟨rfl, ⟨rfl, rfl, rfl, rfl, rfl, rfl, rfl⟩, L, J⟩
  · exact br_f (by decide) ⟨rfl, ⟨rfl, rfl, rfl, rfl, rfl, rfl, rfl⟩, L, J⟩
theorem i_vc_closure {k : Nat} {u : SX} {v : SY} (I : i_Rel k u v) (hk : k + 3 ≤ 1536) : wpX_closure (fun r => wpY_closure (fun r' => r' = r ∧ i_Rel (k + 3) u v) v) u := by
  obtain ⟨dl, lr, lc, xst, xd, xcl, xsc, xm, xa, xs, xb, xg, xe, kX, vX, df, pr, sp, pl, th, fc, fs, fb, fd, fv, fe, kp, kv, cc, cs, ss, sv, so⟩ := u
  obtain ⟨yen, ycl, yw, xb', xst', ym, ya, ys, yk, yv, yc, yt, rk, rv, kY, nY, en, ln, pr', sp', pk, pv, th', ss', po, so', cy, cb, cs', gt, ph, ge, gk, gv, bp, ok, ov, ob⟩ := v
  obtain ⟨⟨rfl, rfl, rfl, rfl, rfl, rfl, rfl⟩, L, B⟩ := I
  have J := B
  obtain ⟨b1, b2, b3, b4, b5, b6, b7⟩ := B
  rcases b7 with ⟨rfl, rfl, rfl⟩ | ⟨rfl, rfl, rfl⟩ | ⟨rfl, rfl, rfl⟩
  · exact ⟨rfl, br_f (by decide) ⟨rfl, ⟨rfl, rfl, rfl, rfl, rfl, rfl, rfl⟩, L, J⟩⟩
  · exact ⟨rfl, br_t rfl ⟨rfl, ⟨rfl, rfl, rfl, rfl, rfl, rfl, rfl⟩, L, J⟩⟩
  · exact ⟨rfl, br_f (by decide) ⟨rfl, ⟨rfl, rfl, rfl, rfl, rfl, rfl, rfl⟩, L, J⟩⟩
theorem i_vc_steps {k : Nat} {u : SX} {v : SY} (I : i_Rel k u v) (hk : k + 3 ≤ 1536) : wpX_steps (fun r => wpY_steps (fun r' => r' = r ∧ i_Rel (k + 3) u v) v) u := by
  obtain ⟨dl, lr, lc, xst, xd, xcl, xsc, xm, xa, xs, xb, xg, xe, kX, vX, df, pr, sp, pl, th, fc, fs, fb, fd, fv, fe, kp, kv, cc, cs, ss, sv, so⟩ := u
  obtain ⟨yen, ycl, yw, xb', xst', ym, ya, ys, yk, yv, yc, yt, rk, rv, kY, nY, en, ln, pr', sp', pk, pv, th', ss', po, so', cy, cb, cs', gt, ph, ge, gk, gv, bp, ok, ov, ob⟩ := v
  obtain ⟨⟨rfl, rfl, rfl, rfl, rfl, rfl, rfl⟩, L, B⟩ := I
  exact ⟨rfl, ⟨rfl, rfl, rfl, rfl, rfl, rfl, rfl⟩, L, B⟩
end
section
/-! the other small methods -/
theorem bl_ix (x : Int32) {n : Nat} (hn : n < 2 ^ 31) : x < 0 ∨ (¬ x < 0 ∧ nI n ≤ x) ∨ ∃ j : Nat, j < n ∧ x = nI j := by
  by_cases h : x < 0
  · exact Or.inl h
  · rcases pk_ix x hn with g | g | g
    · exact absurd g h
    · exact Or.inr (Or.inl ⟨h, g⟩)
    · exact Or.inr (Or.inr g)
theorem bl_shown {x : Int64} {k v : Int32} (h : bl_vr 0 x k v) : (k = 0 ∧ x = v.toInt64) ∨ (¬ k = 0 ∧ x = 10000000000) := by
  rcases h with h | ⟨_, n, hn, _⟩ | ⟨h, g⟩
  · exact Or.inl h
  · omega
  · exact Or.inr ⟨by rw [h]; decide, g⟩
theorem bl_lpX {b j : Nat} : (nI b + 1) * 8 + nI j = nI (8 * (b + 1) + j) := by
  rw [nI_1, show (8 : Int32) = nI 8 from rfl, pk_mul, nI_add, Nat.mul_comm]
theorem bl_lpY {b j : Nat} : 8 + 8 * nI b + nI j = nI (8 * (b + 1) + j) := by
  rw [show (8 : Int32) = nI 8 from rfl, pk_mul, nI_add, nI_add]
  exact congrArg nI (by omega)
section
variable {dl lc xst xd xcl xsc xm xa xs xb xe yen ycl yw ym ya ys yk yv yc yt rk rv : Int32}
variable {lr xg : Int64}
variable {kX vX df pr sp th fc fs fb fd fe kp cc cs ss so kY nY en ln pk pv po cy cb gt ph ge gk gv bp ok ov ob : Nat → Int32}
variable {pl fv kv sv : Nat → Int64}
variable {yb : Int32} {L : Nat → Nat}
theorem bl_hl (b s : Int32) : ∃ r : Int32, (r = 0 ∨ (r = 1 ∧ ∃ i j, i < 3 ∧ j < 8 ∧ b = nI i ∧ s = nI j)) ∧ (∀ post : Int32 → Prop, post r → wpX_hasLocal post (dl, lr, lc, xst, xd, xcl, xsc, xm, xa, xs, xb, xg, xe, kX, vX, df, pr, sp, pl, th, fc, fs, fb, fd, fv, fe, kp, kv, cc, cs, ss, sv, so) b s) ∧ (∀ post : Int32 → Prop, post r → wpY_isLocal post (yen, ycl, yw, yb, xst, ym, ya, ys, yk, yv, yc, yt, rk, rv, kY, nY, en, ln, pr, sp, pk, pv, th, ss, po, so, cy, cb, cs, gt, ph, ge, gk, gv, bp, ok, ov, ob) b s) := by
  rcases bl_ix b (n := 3) (by decide) with h | ⟨h, g⟩ | ⟨i, hi, rfl⟩
  · exact ⟨0, Or.inl rfl, fun post hp => br_t h hp, fun post hp => br_t h (br_t rfl hp)⟩
  · exact ⟨0, Or.inl rfl, fun post hp => br_f h (br_t g hp), fun post hp => br_f h (br_t g (br_t rfl hp))⟩
  · have a1 : ¬ nI i < 0 := nI_pos (by omega)
    have a2 : ¬ nI 3 ≤ nI i := nI_ge hi (by decide)
    rcases bl_ix s (n := 8) (by decide) with h | ⟨h, g⟩ | ⟨j, hj, rfl⟩
    · exact ⟨0, Or.inl rfl, fun post hp => br_f a1 (br_f a2 (br_t h (br_t rfl hp))), fun post hp => br_f a1 (br_f a2 (br_f (by decide) (br_t h (br_t rfl hp))))⟩
    · exact ⟨0, Or.inl rfl, fun post hp => br_f a1 (br_f a2 (br_f h (br_t g (br_t rfl hp)))), fun post hp => br_f a1 (br_f a2 (br_f (by decide) (br_f h (br_t g (br_t rfl hp)))))⟩
    · have a3 : ¬ nI j < 0 := nI_pos (by omega)
      have a4 : ¬ nI 8 ≤ nI j := nI_ge hj (by decide)
      have a5 : vp_in (nI (8 * (i + 1) + j)) 32 := vp_in_nI (by omega) (by decide)
      have a6 : (nI (8 * (i + 1) + j)).toNatClampNeg = 8 * (i + 1) + j := nI_clamp (by omega)
      have gX : ∀ (r : Int32) (post : Int32 → Prop), (((th (8 * (i + 1) + j)) = 0 → (post 0)) ∧ (¬ (th (8 * (i + 1) + j)) = 0 → (post 1))) → wpX_hasLocal post (dl, lr, lc, xst, xd, xcl, xsc, xm, xa, xs, xb, xg, xe, kX, vX, df, pr, sp, pl, th, fc, fs, fb, fd, fv, fe, kp, kv, cc, cs, ss, sv, so) (nI i) (nI j) := by
        intro r post hp
        refine br_f a1 (br_f a2 (br_f a3 (br_f a4 (br_f (by decide) ?_))))
        show vp_in ((nI i + 1) * 8 + nI j) 32 ∧ _
        rw [bl_lpX, a6]
        exact ⟨a5, hp⟩
      have gY : ∀ (r : Int32) (post : Int32 → Prop), (((th (8 * (i + 1) + j)) = 0 → (post 0)) ∧ (¬ (th (8 * (i + 1) + j)) = 0 → (post 1))) → wpY_isLocal post (yen, ycl, yw, yb, xst, ym, ya, ys, yk, yv, yc, yt, rk, rv, kY, nY, en, ln, pr, sp, pk, pv, th, ss, po, so, cy, cb, cs, gt, ph, ge, gk, gv, bp, ok, ov, ob) (nI i) (nI j) := by
        intro r post hp
        refine br_f a1 (br_f a2 (br_f (by decide) (br_f a3 (br_f a4 (br_f (by decide) ?_)))))
        rw [bl_lpY, a6]
        exact ⟨a5, hp⟩
      by_cases c : th (8 * (i + 1) + j) = 0
      · exact ⟨0, Or.inl rfl, fun post hp => gX 0 post (br_t c hp), fun post hp => gY 0 post (br_t c hp)⟩
      · exact ⟨1, Or.inr ⟨rfl, i, j, hi, hj, rfl, rfl⟩, fun post hp => gX 0 post (br_f c hp), fun post hp => gY 0 post (br_f c hp)⟩
theorem bl_x_fp {post : SX → Prop} (hp : post (dl, lr, lc, xst, xd, xcl, xsc, xm, xa, xs, xb, xg, xe, kX, vX, df, pr, sp, (fun i => if i < 32 then 10000000000 else pl i), (fun i => if i < 32 then 0 else th i), fc, fs, fb, fd, fv, fe, kp, kv, cc, cs, ss, sv, so)) : wpX_forgetPlaces post (dl, lr, lc, xst, xd, xcl, xsc, xm, xa, xs, xb, xg, xe, kX, vX, df, pr, sp, pl, th, fc, fs, fb, fd, fv, fe, kp, kv, cc, cs, ss, sv, so) := by
  have key : ∀ n l, l ≤ 32 → 32 - l < n → wX_forgetPlaces_2 post dl lr lc xst xd xcl xsc xm xa xs xb xg xe n (nI l) kX vX df pr sp (fun i => if i < l then 10000000000 else pl i) (fun i => if i < l then 0 else th i) fc fs fb fd fv fe kp kv cc cs ss sv so := by
    intro n
    induction n with
    | zero => intro l _ h; omega
    | succ n ih =>
      intro l h1 h2
      by_cases c : l = 32
      · subst c
        exact br_t (by decide) hp
      · refine br_f (nI_ge (b := 32) (by omega) (by decide)) ⟨vp_in_nI (by omega) (by decide), nm_r (e' := (fun i => if i < l + 1 then 10000000000 else pl i)) ?_ ⟨vp_in_nI (by omega) (by decide), nm_r (e' := (fun i => if i < l + 1 then 0 else th i)) ?_ (nm_r (nI_1 l) (ih (l + 1) (by omega) (by omega)))⟩⟩
        · rw [nI_clamp (by omega)]; exact bl_fillL pl _ l
        · rw [nI_clamp (by omega), bl_nb0]; exact bl_fill th _ l
  have := key 33 0 (by omega) (by omega)
  rw [bl_fill0, bl_fill0] at this
  exact ⟨33, this⟩
theorem bl_x_df {post : Int32 → SX → Prop} (hp : post 1 (dl, lr, lc, xst, xd, xcl, xsc, xm, xa, xs, xb, xg, xe, kX, vX, (fun i => if i < 4 then 0 else df i), pr, sp, pl, th, fc, fs, fb, fd, fv, fe, kp, kv, cc, cs, ss, sv, so)) : ∃ n, wX_special_22 post dl lr lc xst xd xcl xsc xm xa xs xb xg xe n 0 kX vX df pr sp pl th fc fs fb fd fv fe kp kv cc cs ss sv so := by
  have key : ∀ n l, l ≤ 4 → 4 - l < n → wX_special_22 post dl lr lc xst xd xcl xsc xm xa xs xb xg xe n (nI l) kX vX (fun i => if i < l then 0 else df i) pr sp pl th fc fs fb fd fv fe kp kv cc cs ss sv so := by
    intro n
    induction n with
    | zero => intro l _ h; omega
    | succ n ih =>
      intro l h1 h2
      by_cases c : l = 4
      · subst c
        exact br_t (by decide) hp
      · refine br_f (nI_ge (b := 4) (by omega) (by decide)) ⟨vp_in_nI (by omega) (by decide), nm_r (e' := (fun i => if i < l + 1 then 0 else df i)) ?_ (nm_r (nI_1 l) (ih (l + 1) (by omega) (by omega)))⟩
        rw [nI_clamp (by omega), bl_nb0]; exact bl_fill df _ l
  have := key 5 0 (by omega) (by omega)
  rw [bl_fill0] at this
  exact ⟨5, this⟩
theorem bl_y_sp {post : Int32 → SY → Prop} (hp : post 1 (yen, ycl, yw, yb, xst, ym, ya, ys, yk, yv, yc, yt, rk, rv, kY, nY, en, (fun i => if i < 4 then 0 else ln i), pr, sp, (fun i => if i < 32 then 2 else pk i), pv, (fun i => if i < 32 then 0 else th i), ss, po, so, cy, cb, cs, gt, ph, ge, gk, gv, bp, ok, ov, ob)) : ∃ n, wY_special_20 post yen ycl yw yb xst ym ya ys yk yv yc yt rk rv n 0 kY nY en ln pr sp pk pv th ss po so cy cb cs gt ph ge gk gv bp ok ov ob := by
  have k2 : ∀ n l, l ≤ 32 → 32 - l < n → wY_special_40 post yen ycl yw yb xst ym ya ys yk yv yc yt rk rv n (nI l) kY nY en (fun i => if i < 4 then 0 else ln i) pr sp (fun i => if i < l then 2 else pk i) pv (fun i => if i < l then 0 else th i) ss po so cy cb cs gt ph ge gk gv bp ok ov ob := by
    intro n
    induction n with
    | zero => intro l _ h; omega
    | succ n ih =>
      intro l h1 h2
      by_cases c : l = 32
      · subst c
        exact br_t (by decide) hp
      · refine br_f (nI_ge (b := 32) (by omega) (by decide)) ⟨vp_in_nI (by omega) (by decide), nm_r (e' := (fun i => if i < l + 1 then 2 else pk i)) ?_ ⟨vp_in_nI (by omega) (by decide), nm_r (e' := (fun i => if i < l + 1 then 0 else th i)) ?_ (nm_r (nI_1 l) (ih (l + 1) (by omega) (by omega)))⟩⟩
        · rw [nI_clamp (by omega)]; exact bl_fill pk _ l
        · rw [nI_clamp (by omega), bl_nb0]; exact bl_fill th _ l
  have k3 : ∃ n, wY_special_40 post yen ycl yw yb xst ym ya ys yk yv yc yt rk rv n 0 kY nY en (fun i => if i < 4 then 0 else ln i) pr sp pk pv th ss po so cy cb cs gt ph ge gk gv bp ok ov ob := by
    have := k2 33 0 (by omega) (by omega)
    rw [bl_fill0, bl_fill0] at this
    exact ⟨33, this⟩
  have key : ∀ n l, l ≤ 4 → 4 - l < n → wY_special_20 post yen ycl yw yb xst ym ya ys yk yv yc yt rk rv n (nI l) kY nY en (fun i => if i < l then 0 else ln i) pr sp pk pv th ss po so cy cb cs gt ph ge gk gv bp ok ov ob := by
    intro n
    induction n with
    | zero => intro l _ h; omega
    | succ n ih =>
      intro l h1 h2
      by_cases c : l = 4
      · subst c
        exact br_t (by decide) k3
      · refine br_f (nI_ge (b := 4) (by omega) (by decide)) ⟨vp_in_nI (by omega) (by decide), nm_r (e' := (fun i => if i < l + 1 then 0 else ln i)) ?_ (nm_r (nI_1 l) (ih (l + 1) (by omega) (by omega)))⟩
        rw [nI_clamp (by omega)]; exact bl_fill ln _ l
  have := key 5 0 (by omega) (by omega)
  rw [bl_fill0] at this
  exact ⟨5, this⟩
theorem bl_y_in {post : SY → Prop} (hp : post (yen, ycl, yw, yb, xst, ym, ya, ys, yk, yv, yc, yt, rk, rv, kY, nY, en, ln, pr, sp, (fun i => if i < 32 then 2 else pk i), pv, th, ss, po, so, cy, cb, cs, gt, ph, ge, gk, gv, bp, ok, ov, ob)) : ∃ n, wY_init_221 post yen ycl yw yb xst ym ya ys yk yv yc yt rk rv n 0 kY nY en ln pr sp pk pv th ss po so cy cb cs gt ph ge gk gv bp ok ov ob := by
  have key : ∀ n l, l ≤ 32 → 32 - l < n → wY_init_221 post yen ycl yw yb xst ym ya ys yk yv yc yt rk rv n (nI l) kY nY en ln pr sp (fun i => if i < l then 2 else pk i) pv th ss po so cy cb cs gt ph ge gk gv bp ok ov ob := by
    intro n
    induction n with
    | zero => intro l _ h; omega
    | succ n ih =>
      intro l h1 h2
      by_cases c : l = 32
      · subst c
        exact br_t (by decide) hp
      · refine br_f (nI_ge (b := 32) (by omega) (by decide)) ⟨vp_in_nI (by omega) (by decide), nm_r (e' := (fun i => if i < l + 1 then 2 else pk i)) ?_ (nm_r (nI_1 l) (ih (l + 1) (by omega) (by omega)))⟩
        rw [nI_clamp (by omega)]; exact bl_fill pk _ l
  have := key 33 0 (by omega) (by omega)
  rw [bl_fill0] at this
  exact ⟨33, this⟩
end
theorem i_vc0 : wpX_init (fun u => wpY_init (fun v => i_Rel 0 u v)) := by
  refine bl_x_fp (bl_y_in ⟨⟨rfl, rfl, ?_, rfl, rfl, rfl, rfl⟩, fun _ => 0, rfl, rfl, ⟨fun _ _ => Nat.zero_le _, fun _ _ _ _ => ⟨rfl, rfl⟩, fun _ _ => Or.inl (Or.inl rfl)⟩, fun r _ _ h => absurd h (Nat.lt_irrefl 0), ⟨fun k _ => Or.inl ⟨rfl, rfl, rfl⟩, fun k _ => ⟨0, by omega, rfl⟩⟩, fun i hi => ?_, Or.inr (Or.inr ⟨rfl, rfl, rfl⟩)⟩)
  · funext i
    by_cases c : i < 32
    · rw [if_pos c]
    · rw [if_neg c]
  · refine Or.inr (Or.inr ⟨?_, ?_⟩)
    · exact if_pos hi
    · exact if_pos hi
theorem i_vc_global {k : Nat} {u : SX} {v : SY} (I : i_Rel k u v) (hk : k + 3 ≤ 1536) (v1 : Int32) : wpX_global (fun r => wpY_global (fun r' => r' = r ∧ i_Rel (k + 3) u v) v v1) u v1 := by
  obtain ⟨dl, lr, lc, xst, xd, xcl, xsc, xm, xa, xs, xb, xg, xe, kX, vX, df, pr, sp, pl, th, fc, fs, fb, fd, fv, fe, kp, kv, cc, cs, ss, sv, so⟩ := u
  obtain ⟨yen, ycl, yw, xb', xst', ym, ya, ys, yk, yv, yc, yt, rk, rv, kY, nY, en, ln, pr', sp', pk, pv, th', ss', po, so', cy, cb, cs', gt, ph, ge, gk, gv, bp, ok, ov, ob⟩ := v
  obtain ⟨⟨rfl, rfl, rfl, rfl, rfl, rfl, rfl⟩, L, B⟩ := I
  have J := B
  obtain ⟨b1, b2, b3, b4, b5, b6, b7⟩ := B
  rcases bl_ix v1 (n := 8) (by decide) with h | ⟨h, g⟩ | ⟨j, hj, rfl⟩
  · exact br_t h (br_t rfl (br_t h (br_t rfl ⟨rfl, ⟨⟨rfl, rfl, rfl, rfl, rfl, rfl, rfl⟩, L, J⟩⟩)))
  · exact br_f h (br_t g (br_t rfl (br_f h (br_t g (br_t rfl ⟨rfl, ⟨⟨rfl, rfl, rfl, rfl, rfl, rfl, rfl⟩, L, J⟩⟩)))))
  · have a1 : ¬ nI j < 0 := nI_pos (by omega)
    have a2 : ¬ nI 8 ≤ nI j := nI_ge hj (by decide)
    have a3 : vp_in (nI j) 340 := vp_in_nI (by omega) (by decide)
    refine br_f a1 (br_f a2 (br_f (by decide) ⟨vp_in_nI (by omega) (by decide), br_f a1 (br_f a2 (br_f (by decide) ⟨a3, ?_⟩))⟩))
    rw [nI_clamp (by omega)]
    rcases bl_shown (b6 j (by omega)) with ⟨c, e⟩ | ⟨c, e⟩
    · exact br_t c ⟨a3, e.symm, ⟨⟨rfl, rfl, rfl, rfl, rfl, rfl, rfl⟩, L, J⟩⟩
    · exact br_f c ⟨e.symm, ⟨⟨rfl, rfl, rfl, rfl, rfl, rfl, rfl⟩, L, J⟩⟩
theorem i_vc_isLocal {k : Nat} {u : SX} {v : SY} (I : i_Rel k u v) (hk : k + 3 ≤ 1536) (v1 : Int32) (v2 : Int32) : wpX_isLocal (fun r => wpY_isLocal (fun r' => r' = r ∧ i_Rel (k + 3) u v) v v1 v2) u v1 v2 := by
  obtain ⟨dl, lr, lc, xst, xd, xcl, xsc, xm, xa, xs, xb, xg, xe, kX, vX, df, pr, sp, pl, th, fc, fs, fb, fd, fv, fe, kp, kv, cc, cs, ss, sv, so⟩ := u
  obtain ⟨yen, ycl, yw, xb', xst', ym, ya, ys, yk, yv, yc, yt, rk, rv, kY, nY, en, ln, pr', sp', pk, pv, th', ss', po, so', cy, cb, cs', gt, ph, ge, gk, gv, bp, ok, ov, ob⟩ := v
  obtain ⟨⟨rfl, rfl, rfl, rfl, rfl, rfl, rfl⟩, L, B⟩ := I
  obtain ⟨r, hr, hX, hY⟩ := bl_hl (dl := dl) (lr := lr) (lc := lc) (xst := xst') (xd := xd) (xcl := xcl) (xsc := xsc) (xm := xm) (xa := xa) (xs := xs) (xb := xb) (xg := xg) (xe := xe) (kX := kX) (vX := vX) (df := df) (pr := pr') (sp := sp') (pl := pl) (th := th') (fc := fc) (fs := fs) (fb := fb) (fd := fd) (fv := fv) (fe := fe) (kp := kp) (kv := kv) (cc := cc) (cs := cs') (ss := ss') (sv := sv) (so := so') (yen := yen) (ycl := ycl) (yw := yw) (ym := ym) (ya := ya) (ys := ys) (yk := yk) (yv := yv) (yc := yc) (yt := yt) (rk := rk) (rv := rv) (kY := kY) (nY := nY) (en := en) (ln := ln) (pk := pk) (pv := pv) (po := po) (cy := cy) (cb := cb) (gt := gt) (ph := ph) (ge := ge) (gk := gk) (gv := gv) (bp := bp) (ok := ok) (ov := ov) (ob := ob) (yb := xb') v1 v2
  unfold wpX_isLocal
  refine hX _ ?_
  refine ⟨?_, hY _ ⟨rfl, ⟨⟨rfl, rfl, rfl, rfl, rfl, rfl, rfl⟩, L, B⟩⟩⟩
  rcases hr with rfl | ⟨rfl, _⟩ <;> rfl
theorem i_vc_local {k : Nat} {u : SX} {v : SY} (I : i_Rel k u v) (hk : k + 3 ≤ 1536) (v1 : Int32) (v2 : Int32) : wpX_local (fun r => wpY_local (fun r' => r' = r ∧ i_Rel (k + 3) u v) v v1 v2) u v1 v2 := by
  obtain ⟨dl, lr, lc, xst, xd, xcl, xsc, xm, xa, xs, xb, xg, xe, kX, vX, df, pr, sp, pl, th, fc, fs, fb, fd, fv, fe, kp, kv, cc, cs, ss, sv, so⟩ := u
  obtain ⟨yen, ycl, yw, xb', xst', ym, ya, ys, yk, yv, yc, yt, rk, rv, kY, nY, en, ln, pr', sp', pk, pv, th', ss', po, so', cy, cb, cs', gt, ph, ge, gk, gv, bp, ok, ov, ob⟩ := v
  obtain ⟨⟨rfl, rfl, rfl, rfl, rfl, rfl, rfl⟩, L, B⟩ := I
  have J := B
  obtain ⟨b1, b2, b3, b4, b5, b6, b7⟩ := B
  obtain ⟨r, hr, hX, hY⟩ := bl_hl (dl := dl) (lr := lr) (lc := lc) (xst := xst') (xd := xd) (xcl := xcl) (xsc := xsc) (xm := xm) (xa := xa) (xs := xs) (xb := xb) (xg := xg) (xe := xe) (kX := kX) (vX := vX) (df := df) (pr := pr') (sp := sp') (pl := pl) (th := th') (fc := fc) (fs := fs) (fb := fb) (fd := fd) (fv := fv) (fe := fe) (kp := kp) (kv := kv) (cc := cc) (cs := cs') (ss := ss') (sv := sv) (so := so') (yen := yen) (ycl := ycl) (yw := yw) (ym := ym) (ya := ya) (ys := ys) (yk := yk) (yv := yv) (yc := yc) (yt := yt) (rk := rk) (rv := rv) (kY := kY) (nY := nY) (en := en) (ln := ln) (pk := pk) (pv := pv) (po := po) (cy := cy) (cb := cb) (gt := gt) (ph := ph) (ge := ge) (gk := gk) (gv := gv) (bp := bp) (ok := ok) (ov := ov) (ob := ob) (yb := xb') v1 v2
  unfold wpX_local wpY_local
  rcases hr with rfl | ⟨rfl, i, j, hi, hj, rfl, rfl⟩
  · refine hX _ ?_
    refine br_t rfl ?_
    refine hY _ ?_
    exact br_t rfl ⟨rfl, ⟨⟨rfl, rfl, rfl, rfl, rfl, rfl, rfl⟩, L, J⟩⟩
  · have a3 : vp_in (nI (8 * (i + 1) + j)) 340 := vp_in_nI (by omega) (by decide)
    refine hX _ ?_
    refine br_f (by decide) ?_
    show vp_in ((nI i + 1) * 8 + nI j) 32 ∧ _
    rw [bl_lpX, nI_clamp (by omega)]
    refine ⟨vp_in_nI (by omega) (by decide), ?_⟩
    refine hY _ ?_
    refine br_f (by decide) ?_
    rw [bl_lpY]
    refine ⟨a3, ?_⟩
    rw [nI_clamp (by omega)]
    rcases bl_shown (b6 (8 * (i + 1) + j) (by omega)) with ⟨c, e⟩ | ⟨c, e⟩
    · exact br_t c ⟨a3, e.symm, ⟨⟨rfl, rfl, rfl, rfl, rfl, rfl, rfl⟩, L, J⟩⟩
    · exact br_f c ⟨e.symm, ⟨⟨rfl, rfl, rfl, rfl, rfl, rfl, rfl⟩, L, J⟩⟩
theorem i_vc_set {k : Nat} {u : SX} {v : SY} (I : i_Rel k u v) (hk : k + 3 ≤ 1536) (v1 : Int32) (v2 : Int32) : wpX_set (fun r u' => wpY_set (fun r' v' => r' = r ∧ i_Rel (k + 3) u' v') v v1 v2) u v1 v2 := by
  obtain ⟨dl, lr, lc, xst, xd, xcl, xsc, xm, xa, xs, xb, xg, xe, kX, vX, df, pr, sp, pl, th, fc, fs, fb, fd, fv, fe, kp, kv, cc, cs, ss, sv, so⟩ := u
  obtain ⟨yen, ycl, yw, xb', xst', ym, ya, ys, yk, yv, yc, yt, rk, rv, kY, nY, en, ln, pr', sp', pk, pv, th', ss', po, so', cy, cb, cs', gt, ph, ge, gk, gv, bp, ok, ov, ob⟩ := v
  obtain ⟨⟨rfl, rfl, rfl, rfl, rfl, rfl, rfl⟩, L, B⟩ := I
  have J := B
  obtain ⟨b1, b2, b3, b4, b5, b6, b7⟩ := B
  rcases bl_ix v1 (n := 8) (by decide) with h | ⟨h, g⟩ | ⟨j, hj, rfl⟩
  · exact br_t h (br_t rfl (br_t h (br_t rfl ⟨rfl, ⟨⟨rfl, rfl, rfl, rfl, rfl, rfl, rfl⟩, L, J⟩⟩)))
  · exact br_f h (br_t g (br_t rfl (br_f h (br_t g (br_t rfl ⟨rfl, ⟨⟨rfl, rfl, rfl, rfl, rfl, rfl, rfl⟩, L, J⟩⟩)))))
  · have a1 : ¬ nI j < 0 := nI_pos (by omega)
    have a2 : ¬ nI 8 ≤ nI j := nI_ge hj (by decide)
    have a3 : vp_in (nI j) 340 := vp_in_nI (by omega) (by decide)
    refine br_f a1 (br_f a2 (br_f (by decide) ⟨vp_in_nI (by omega) (by decide), nm_e (br_f a1 (br_f a2 (br_f (by decide) ⟨a3, nm_e ⟨a3, nm_e ⟨rfl, ⟨rfl, rfl, rfl, rfl, rfl, rfl, rfl⟩, L, b1, b2, b3, b4, b5, ?_, b7⟩⟩⟩)))⟩))
    rw [nI_clamp (by omega)]
    exact bl_Po_set b6 j (Or.inl ⟨rfl, rfl⟩)
theorem i_vc_kill {k : Nat} {u : SX} {v : SY} (I : i_Rel k u v) (hk : k + 3 ≤ 1536) (v1 : Int32) (v2 : Int32) : wpX_kill (fun r u' => wpY_kill (fun r' v' => r' = r ∧ i_Rel (k + 3) u' v') v v1 v2) u v1 v2 := by
  obtain ⟨dl, lr, lc, xst, xd, xcl, xsc, xm, xa, xs, xb, xg, xe, kX, vX, df, pr, sp, pl, th, fc, fs, fb, fd, fv, fe, kp, kv, cc, cs, ss, sv, so⟩ := u
  obtain ⟨yen, ycl, yw, xb', xst', ym, ya, ys, yk, yv, yc, yt, rk, rv, kY, nY, en, ln, pr', sp', pk, pv, th', ss', po, so', cy, cb, cs', gt, ph, ge, gk, gv, bp, ok, ov, ob⟩ := v
  obtain ⟨⟨rfl, rfl, rfl, rfl, rfl, rfl, rfl⟩, L, B⟩ := I
  obtain ⟨r, hr, hX, hY⟩ := bl_hl (dl := dl) (lr := lr) (lc := lc) (xst := xst') (xd := xd) (xcl := xcl) (xsc := xsc) (xm := xm) (xa := xa) (xs := xs) (xb := xb) (xg := xg) (xe := xe) (kX := kX) (vX := vX) (df := df) (pr := pr') (sp := sp') (pl := pl) (th := th') (fc := fc) (fs := fs) (fb := fb) (fd := fd) (fv := fv) (fe := fe) (kp := kp) (kv := kv) (cc := cc) (cs := cs') (ss := ss') (sv := sv) (so := so') (yen := yen) (ycl := ycl) (yw := yw) (ym := ym) (ya := ya) (ys := ys) (yk := yk) (yv := yv) (yc := yc) (yt := yt) (rk := rk) (rv := rv) (kY := kY) (nY := nY) (en := en) (ln := ln) (pk := pk) (pv := pv) (po := po) (cy := cy) (cb := cb) (gt := gt) (ph := ph) (ge := ge) (gk := gk) (gv := gv) (bp := bp) (ok := ok) (ov := ov) (ob := ob) (yb := xb') v1 v2
  unfold wpX_kill wpY_kill
  rcases hr with rfl | ⟨rfl, i, j, hi, hj, rfl, rfl⟩
  · refine hX _ ?_
    refine br_t rfl ?_
    refine hY _ ?_
    exact br_t rfl ⟨rfl, ⟨⟨rfl, rfl, rfl, rfl, rfl, rfl, rfl⟩, L, B⟩⟩
  · have a3 : vp_in (nI (8 * (i + 1) + j)) 32 := vp_in_nI (by omega) (by decide)
    refine hX _ ?_
    refine br_f (by decide) ?_
    show vp_in ((nI i + 1) * 8 + nI j) 32 ∧ _
    rw [bl_lpX]
    refine ⟨a3, nm_e ?_⟩
    refine hY _ ?_
    refine br_f (by decide) ?_
    rw [bl_lpY]
    exact ⟨a3, nm_e ⟨rfl, ⟨⟨rfl, rfl, rfl, rfl, rfl, rfl, rfl⟩, L, B⟩⟩⟩
theorem i_vc_special {k : Nat} {u : SX} {v : SY} (I : i_Rel k u v) (hk : k + 3 ≤ 1536) (v1 : Int32) (v2 : Int32) : wpX_special (fun r u' => wpY_special (fun r' v' => r' = r ∧ i_Rel (k + 3) u' v') v v1 (lw_bz v2)) u v1 (lw_bz v2) := by
  obtain ⟨dl, lr, lc, xst, xd, xcl, xsc, xm, xa, xs, xb, xg, xe, kX, vX, df, pr, sp, pl, th, fc, fs, fb, fd, fv, fe, kp, kv, cc, cs, ss, sv, so⟩ := u
  obtain ⟨yen, ycl, yw, xb', xst', ym, ya, ys, yk, yv, yc, yt, rk, rv, kY, nY, en, ln, pr', sp', pk, pv, th', ss', po, so', cy, cb, cs', gt, ph, ge, gk, gv, bp, ok, ov, ob⟩ := v
  obtain ⟨⟨rfl, rfl, rfl, rfl, rfl, rfl, rfl⟩, L, B⟩ := I
  have J := B
  obtain ⟨b1, b2, b3, b4, b5, b6, b7⟩ := B
  rcases bl_ix v1 (n := 8) (by decide) with h | ⟨h, g⟩ | ⟨j, hj, rfl⟩
  · exact br_t h (br_t rfl (br_t h (br_t rfl ⟨rfl, ⟨⟨rfl, rfl, rfl, rfl, rfl, rfl, rfl⟩, L, J⟩⟩)))
  · exact br_f h (br_t g (br_t rfl (br_f h (br_t g (br_t rfl ⟨rfl, ⟨⟨rfl, rfl, rfl, rfl, rfl, rfl, rfl⟩, L, J⟩⟩)))))
  · have a1 : ¬ nI j < 0 := nI_pos (by omega)
    have a2 : ¬ nI 8 ≤ nI j := nI_ge hj (by decide)
    have a3 : vp_in (nI j) 8 := vp_in_nI hj (by decide)
    refine br_f a1 (br_f a2 (br_f (by decide) ⟨a3, nm_e (bl_x_fp (bl_x_df (br_f a1 (br_f a2 (br_f (by decide) ⟨a3, nm_e (bl_y_sp ⟨rfl, ⟨rfl, rfl, rfl, rfl, rfl, rfl, rfl⟩, fun r => if r = 0 then L 0 else 0, b1, ?_, ⟨fun r hr => ?_, b3.2⟩, fun r h0 _ hl => ?_, ⟨fun k hk => Or.inl ⟨?_, ?_, ?_⟩, b5.2⟩, fun i hi => Or.inr (Or.inr ⟨?_, ?_⟩), b7⟩)⟩)))))⟩))
    · exact (if_neg (by omega)).trans b2
    · show (if r = 0 then L 0 else 0) ≤ 48
      split
      · exact b3.1 0 (by omega)
      · omega
    · have hl : 0 < (if r = 0 then L 0 else 0) := hl
      rw [if_neg (by omega)] at hl
      omega
    · exact if_pos hk
    · exact if_neg (by omega)
    · exact if_pos hk
    · exact if_pos hi
    · exact if_pos hi
theorem i_vc_token {k : Nat} {u : SX} {v : SY} (I : i_Rel k u v) (hk : k + 3 ≤ 1536) (v1 : Int32) (v2 : Int32) : wpX_token (fun r u' => wpY_token (fun r' v' => r' = r ∧ i_Rel (k + 3) u' v') v v1 v2) u v1 v2 := by
  obtain ⟨dl, lr, lc, xst, xd, xcl, xsc, xm, xa, xs, xb, xg, xe, kX, vX, df, pr, sp, pl, th, fc, fs, fb, fd, fv, fe, kp, kv, cc, cs, ss, sv, so⟩ := u
  obtain ⟨yen, ycl, yw, xb', xst', ym, ya, ys, yk, yv, yc, yt, rk, rv, kY, nY, en, ln, pr', sp', pk, pv, th', ss', po, so', cy, cb, cs', gt, ph, ge, gk, gv, bp, ok, ov, ob⟩ := v
  obtain ⟨⟨rfl, rfl, rfl, rfl, rfl, rfl, rfl⟩, L, B⟩ := I
  have J := B
  obtain ⟨b1, b2, b3, b4, b5, b6, b7⟩ := B
  have l0 := b3.1 0 (by omega)
  subst b1
  by_cases c : L 0 = 48
  · refine br_t ?_ (bl_y_tok (fun _ => br_t ?_ ⟨rfl, ⟨⟨rfl, rfl, rfl, rfl, rfl, rfl, rfl⟩, L, J⟩⟩) (fun _ => ⟨rfl, ⟨⟨rfl, rfl, rfl, rfl, rfl, rfl, rfl⟩, L, J⟩⟩))
    · rw [c]; decide
    · rw [b2, c]; rfl
  · refine br_f (nI_ge (b := 48) (by omega) (by decide)) (bl_x_tok (fun hT => ?_) (fun hT => br_t rfl (bl_y_tok (fun z => absurd z hT) (fun _ => ⟨rfl, ⟨⟨rfl, rfl, rfl, rfl, rfl, rfl, rfl⟩, L, J⟩⟩))))
    have e1 : (192 : Int32) + nI (L 0) = nI (192 + L 0) := nI_add 192 (L 0)
    have i1 : vp_in (nI (L 0)) 240 := vp_in_nI (by omega) (by decide)
    have i2 : vp_in (nI (192 + L 0)) 240 := vp_in_nI (by omega) (by decide)
    refine br_f (by decide) ⟨i1, nm_e ⟨i1, nm_e (nm_r (nI_1 _) (bl_y_tok (fun _ => br_f ?_ ?_) (fun z => absurd hT z)))⟩⟩
    · rw [b2]
      intro e
      exact c ((nI_eq (a := L 0) (b := 48) (by omega) (by decide)).mp e)
    · rw [b2, e1]
      refine ⟨i2, nm_e ⟨i2, nm_e (nm_e ⟨?_, ⟨rfl, rfl, rfl, rfl, rfl, rfl, rfl⟩, fun r => if r = 0 then L 0 + 1 else L r, rfl, ?_, ⟨fun r hr => ?_, fun r hr i hi => ?_, fun p hp => ?_⟩, fun r h0 hr hl => ?_, ⟨fun k hk => ?_, b5.2⟩, b6, b7⟩)⟩⟩
      · exact pk_us.trans (nI_1 _)
      · exact pk_us.trans (nI_1 _)
      · show (if r = 0 then L 0 + 1 else L r) ≤ 48
        split
        · omega
        · exact b3.1 r hr
      · rw [nI_clamp (by omega), nI_clamp (by omega)]
        by_cases e : r = 0 ∧ i = L 0
        · obtain ⟨rfl, rfl⟩ := e
          rw [show bl_yb 0 + L 0 = 192 + L 0 from rfl, show 48 * 0 + L 0 = L 0 from by omega, pk_us, pk_us, pk_us, pk_us]
          exact ⟨rfl, rfl⟩
        · have n1 : bl_yb r + i ≠ 192 + L 0 := by
            by_cases e0 : r = 0
            · subst e0
              show 192 + i ≠ 192 + L 0
              omega
            · have := bl_yb_ne (r := r) (r' := 0) (i := i) (i' := L 0) hr (by omega) e0 hi (by omega)
              exact this
          have n2 : 48 * r + i ≠ L 0 := by omega
          rw [pk_un n1, pk_un n1, pk_un n2, pk_un n2]
          exact b3.2.1 r hr i hi
      · rw [nI_clamp (by omega)]
        by_cases e : p = L 0
        · subst e
          rw [pk_us, pk_us]; exact hT
        · rw [pk_un e, pk_un e]; exact b3.2.2 p hp
      · have hl : 0 < (if r = 0 then L 0 + 1 else L r) := hl
        rw [if_neg (by omega)] at hl
        refine bl_Re_cg (L := L) (kX := kX) (en := en) ?_ (b3.1 r hr) (fun i _ => ?_) (fun i _ => rfl) (b4 r h0 hr hl)
        · exact if_neg (by omega)
        · rw [nI_clamp (by omega), pk_un (by omega)]
      · show (df k = 0 ∧ (if k + 1 = 0 then L 0 + 1 else L (k + 1)) = 0 ∧ upd ln 4 (nI (L 0) + 1) k = 0) ∨ (df k = 1 ∧ 0 < (if k + 1 = 0 then L 0 + 1 else L (k + 1)) ∧ upd ln 4 (nI (L 0) + 1) k = nI (if k + 1 = 0 then L 0 + 1 else L (k + 1)))
        rw [if_neg (by omega), pk_un (by omega)]
        exact b5.1 k hk
end
section
/-! turns: a token is entered -/
section
variable {dl lc xst xd xcl xsc xm xa xs xb xe yen ycl yw ym ya ys yk yv yc yt rk rv : Int32}
variable {lr xg : Int64}
variable {kX vX df pr sp th fc fs fb fd fe kp cc cs ss so kY nY en ln pk pv po cy cb gt ph ge gk gv bp ok ov ob : Nat → Int32}
variable {pl fv kv sv : Nat → Int64}
variable {L : Nat → Nat} {q d h sc cl st s r t m m2 p j b w e : Nat}
theorem bl_E_long (C : bl_Cf L dl kX vX df pr sp kY nY en ln) (hcl : cl ≤ st) (hst : st ≤ 300) (So : bl_So sp ss so po sc) (Co : bl_Co kX vX L cc cs cy cb sc cl) (P : bl_Po cl pl pk pv) (V : bl_Vo cl sc sv pk pv) (hd : d ≤ st) (hw : 3001 * sc + s ≤ 3010 * st) (S : bl_St kX vX L sc cl (bl_x fc fs fb fd fv fe kp kv) (bl_y gt ph ge gk gv bp ok ov ob) d h xb s) (hs : bl_sc sc xs) (hr : r < 5) (ht : t < L r) (h3 : st = 300) : ∃ u' v' q, q < 3010 * (300 - st) + s + 1 ∧ bl_RR L q u' v' ∧ (∀ post : SX → Prop, post u' → wpX_enterToken post (dl, lr, lc, (nI st), (nI d), (nI cl), (nI sc), 0, (nI (48 * r + t)), xs, xb, xg, xe, kX, vX, df, pr, sp, pl, th, fc, fs, fb, fd, fv, fe, kp, kv, cc, cs, ss, sv, so)) ∧ (∀ post : SY → Prop, post v' → wpY_evaluate post ((nI sc), (nI cl), (nI h), xb, (nI st), 1, (nI (bl_yb r + t)), xs, yk, yv, yc, yt, rk, rv, kY, nY, en, ln, pr, sp, pk, pv, th, ss, po, so, cy, cb, cs, gt, ph, ge, gk, gv, bp, ok, ov, ob)) := by
  subst h3
  refine ⟨(dl, lr, lc, (nI 300), (nI d), (nI cl), (nI sc), 2, (nI (48 * r + t)), xs, xb, xg, 5, kX, vX, df, pr, sp, pl, th, fc, fs, fb, fd, fv, fe, kp, kv, cc, cs, ss, sv, so), ((nI sc), (nI cl), (nI h), xb, (nI 300), 3, (nI (bl_yb r + t)), xs, yk, yv, yc, yt, rk, rv, kY, nY, en, ln, pr, sp, pk, pv, th, ss, po, so, cy, cb, cs, gt, ph, ge, gk, gv, bp, ok, ov, ob), _, ?_, bl_mkL C hd hcl hst hw So Co P V S rfl, fun post hp => br_f (by decide) hp, fun post hp => br_t rfl hp⟩
  omega
theorem bl_E_num (C : bl_Cf L dl kX vX df pr sp kY nY en ln) (hcl : cl ≤ st) (hst : st ≤ 300) (So : bl_So sp ss so po sc) (Co : bl_Co kX vX L cc cs cy cb sc cl) (P : bl_Po cl pl pk pv) (V : bl_Vo cl sc sv pk pv) (hd : d ≤ st) (hw : 3001 * sc + s ≤ 3010 * st) (S : bl_St kX vX L sc cl (bl_x fc fs fb fd fv fe kp kv) (bl_y gt ph ge gk gv bp ok ov ob) d h xb s) (hs : bl_sc sc xs) (hr : r < 5) (ht : t < L r) (h3 : st < 300) (hk : kX (48 * r + t) = 0) : ∃ u' v' q, q < 3010 * (300 - st) + s + 1 ∧ bl_RR L q u' v' ∧ (∀ post : SX → Prop, post u' → wpX_enterToken post (dl, lr, lc, (nI st), (nI d), (nI cl), (nI sc), 0, (nI (48 * r + t)), xs, xb, xg, xe, kX, vX, df, pr, sp, pl, th, fc, fs, fb, fd, fv, fe, kp, kv, cc, cs, ss, sv, so)) ∧ (∀ post : SY → Prop, post v' → wpY_evaluate post ((nI sc), (nI cl), (nI h), xb, (nI st), 1, (nI (bl_yb r + t)), xs, yk, yv, yc, yt, rk, rv, kY, nY, en, ln, pr, sp, pk, pv, th, ss, po, so, cy, cb, cs, gt, ph, ge, gk, gv, bp, ok, ov, ob)) := by
  have K := C.1
  have p240 := bl_pX K hr ht
  have q240 := bl_pY K hr ht
  have kq := (bl_kY K hr ht).1
  have nq := (bl_kY K hr ht).2
  have tk := K.2.2 _ p240
  have R := C.2.1 r hr (by omega)
  have l48 := K.1 r hr
  have i240 : vp_in (nI (48 * r + t)) 240 := vp_in_nI p240 (by decide)
  have j240 : vp_in (nI (bl_yb r + t)) 240 := vp_in_nI q240 (by decide)
  have cp : (nI (48 * r + t)).toNatClampNeg = 48 * r + t := nI_clamp (by omega)
  have cq : (nI (bl_yb r + t)).toNatClampNeg = bl_yb r + t := nI_clamp (by omega)
  have ne300 : ¬ nI st = 300 := by
    intro z
    have := (nI_eq (a := st) (b := 300) (by omega) (by decide)).mp z
    omega
  refine ⟨(dl, lr, lc, (nI (st + 1)), (nI d), (nI cl), (nI sc), 1, (nI (48 * r + t)), xs, xb, (vX (48 * r + t)).toInt64, 0, kX, vX, df, pr, sp, pl, th, fc, fs, fb, fd, fv, fe, kp, kv, cc, cs, ss, sv, so), ((nI sc), (nI cl), (nI h), xb, (nI (st + 1)), 0, (nI (bl_yb r + t)), xs, 0, (vX (48 * r + t)), yc, yt, rk, rv, kY, nY, en, ln, pr, sp, pk, pv, th, ss, po, so, cy, cb, cs, gt, ph, ge, gk, gv, bp, ok, ov, ob), _, ?_, bl_mkG C (by omega) (by omega) (by omega) (by omega) So Co P V S (Or.inl ⟨rfl, rfl⟩) rfl, fun post hp => br_t (nI_lt (b := 300) (by omega) (by decide)) (nm_r (nI_1 st) ⟨i240, nm_r (e' := kX (48 * r + t)) (by rw [cp]) (br_t hk ⟨i240, ?_⟩)⟩), fun post hp => br_f ne300 (nm_r (nI_1 st) ⟨j240, nm_r (e' := kX (48 * r + t)) (by rw [cq, kq]) ⟨j240, nm_r (e' := vX (48 * r + t)) (by rw [cq, nq]) (br_t hk hp)⟩⟩)⟩
  · omega
  · rw [cp]; exact hp
theorem bl_E_fail (C : bl_Cf L dl kX vX df pr sp kY nY en ln) (hcl : cl ≤ st) (hst : st ≤ 300) (So : bl_So sp ss so po sc) (Co : bl_Co kX vX L cc cs cy cb sc cl) (P : bl_Po cl pl pk pv) (V : bl_Vo cl sc sv pk pv) (hd : d ≤ st) (hw : 3001 * sc + s ≤ 3010 * st) (S : bl_St kX vX L sc cl (bl_x fc fs fb fd fv fe kp kv) (bl_y gt ph ge gk gv bp ok ov ob) d h xb s) (hs : bl_sc sc xs) (hr : r < 5) (ht : t < L r) (h3 : st < 300) (hk : kX (48 * r + t) = 18) : ∃ u' v' q, q < 3010 * (300 - st) + s + 1 ∧ bl_RR L q u' v' ∧ (∀ post : SX → Prop, post u' → wpX_enterToken post (dl, lr, lc, (nI st), (nI d), (nI cl), (nI sc), 0, (nI (48 * r + t)), xs, xb, xg, xe, kX, vX, df, pr, sp, pl, th, fc, fs, fb, fd, fv, fe, kp, kv, cc, cs, ss, sv, so)) ∧ (∀ post : SY → Prop, post v' → wpY_evaluate post ((nI sc), (nI cl), (nI h), xb, (nI st), 1, (nI (bl_yb r + t)), xs, yk, yv, yc, yt, rk, rv, kY, nY, en, ln, pr, sp, pk, pv, th, ss, po, so, cy, cb, cs, gt, ph, ge, gk, gv, bp, ok, ov, ob)) := by
  have K := C.1
  have p240 := bl_pX K hr ht
  have q240 := bl_pY K hr ht
  have kq := (bl_kY K hr ht).1
  have nq := (bl_kY K hr ht).2
  have tk := K.2.2 _ p240
  have R := C.2.1 r hr (by omega)
  have l48 := K.1 r hr
  have i240 : vp_in (nI (48 * r + t)) 240 := vp_in_nI p240 (by decide)
  have j240 : vp_in (nI (bl_yb r + t)) 240 := vp_in_nI q240 (by decide)
  have cp : (nI (48 * r + t)).toNatClampNeg = 48 * r + t := nI_clamp (by omega)
  have cq : (nI (bl_yb r + t)).toNatClampNeg = bl_yb r + t := nI_clamp (by omega)
  have ne300 : ¬ nI st = 300 := by
    intro z
    have := (nI_eq (a := st) (b := 300) (by omega) (by decide)).mp z
    omega
  have k0 : ¬ kX (48 * r + t) = 0 := by rw [hk]; decide
  have k1 : ¬ kX (48 * r + t) = 1 := by rw [hk]; decide
  have k4 : ¬ kX (48 * r + t) = 4 := by rw [hk]; decide
  refine ⟨(dl, lr, lc, (nI (st + 1)), (nI d), (nI cl), (nI sc), 2, (nI (48 * r + t)), xs, xb, xg, 4, kX, vX, df, pr, sp, pl, th, fc, fs, fb, fd, fv, fe, kp, kv, cc, cs, ss, sv, so), ((nI sc), (nI cl), (nI h), xb, (nI (st + 1)), 2, (nI (bl_yb r + t)), xs, yk, yv, 4, (-1), rk, rv, kY, nY, en, ln, pr, sp, pk, pv, th, ss, po, so, cy, cb, cs, gt, ph, ge, gk, gv, bp, ok, ov, ob), _, ?_, bl_mkN C (by omega) (by omega) (by omega) (by omega) So Co P V (Or.inl S) (Or.inl ⟨4, by omega, by omega, rfl, rfl, rfl⟩) rfl, fun post hp => br_t (nI_lt (b := 300) (by omega) (by decide)) (nm_r (nI_1 st) ⟨i240, nm_r (e' := kX (48 * r + t)) (by rw [cp]) (br_f k0 (br_f k1 (br_f k4 (br_t hk hp))))⟩), fun post hp => br_f ne300 (nm_r (nI_1 st) ⟨j240, nm_r (e' := kX (48 * r + t)) (by rw [cq, kq]) ⟨j240, nm_r (e' := vX (48 * r + t)) (by rw [cq, nq]) (br_f k0 (br_f k1 (br_t hk hp)))⟩⟩)⟩
  omega
theorem bl_E_fun (C : bl_Cf L dl kX vX df pr sp kY nY en ln) (hcl : cl ≤ st) (hst : st ≤ 300) (So : bl_So sp ss so po sc) (Co : bl_Co kX vX L cc cs cy cb sc cl) (P : bl_Po cl pl pk pv) (V : bl_Vo cl sc sv pk pv) (hd : d ≤ st) (hw : 3001 * sc + s ≤ 3010 * st) (S : bl_St kX vX L sc cl (bl_x fc fs fb fd fv fe kp kv) (bl_y gt ph ge gk gv bp ok ov ob) d h xb s) (hs : bl_sc sc xs) (hr : r < 5) (ht : t < L r) (h3 : st < 300) (hk : kX (48 * r + t) = 4) : ∃ u' v' q, q < 3010 * (300 - st) + s + 1 ∧ bl_RR L q u' v' ∧ (∀ post : SX → Prop, post u' → wpX_enterToken post (dl, lr, lc, (nI st), (nI d), (nI cl), (nI sc), 0, (nI (48 * r + t)), xs, xb, xg, xe, kX, vX, df, pr, sp, pl, th, fc, fs, fb, fd, fv, fe, kp, kv, cc, cs, ss, sv, so)) ∧ (∀ post : SY → Prop, post v' → wpY_evaluate post ((nI sc), (nI cl), (nI h), xb, (nI st), 1, (nI (bl_yb r + t)), xs, yk, yv, yc, yt, rk, rv, kY, nY, en, ln, pr, sp, pk, pv, th, ss, po, so, cy, cb, cs, gt, ph, ge, gk, gv, bp, ok, ov, ob)) := by
  have K := C.1
  have p240 := bl_pX K hr ht
  have q240 := bl_pY K hr ht
  have kq := (bl_kY K hr ht).1
  have nq := (bl_kY K hr ht).2
  have tk := K.2.2 _ p240
  have R := C.2.1 r hr (by omega)
  have l48 := K.1 r hr
  have i240 : vp_in (nI (48 * r + t)) 240 := vp_in_nI p240 (by decide)
  have j240 : vp_in (nI (bl_yb r + t)) 240 := vp_in_nI q240 (by decide)
  have cp : (nI (48 * r + t)).toNatClampNeg = 48 * r + t := nI_clamp (by omega)
  have cq : (nI (bl_yb r + t)).toNatClampNeg = bl_yb r + t := nI_clamp (by omega)
  have ne300 : ¬ nI st = 300 := by
    intro z
    have := (nI_eq (a := st) (b := 300) (by omega) (by decide)).mp z
    omega
  have k0 : ¬ kX (48 * r + t) = 0 := by rw [hk]; decide
  have k1 : ¬ kX (48 * r + t) = 1 := by rw [hk]; decide
  have k18 : ¬ kX (48 * r + t) = 18 := by rw [hk]; decide
  have cc1 : (nI cl).toNatClampNeg = cl := nI_clamp (by omega)
  have i3 : vp_in (nI cl) 300 := vp_in_nI (by omega) (by decide)
  have j3 : vp_in (nI cl) 310 := vp_in_nI (by omega) (by decide)
  refine ⟨(dl, lr, lc, (nI (st + 1)), (nI d), (nI (cl + 1)), (nI sc), 1, (nI (48 * r + t)), xs, xb, (20000000000 + lN cl), 0, kX, vX, df, pr, sp, pl, th, fc, fs, fb, fd, fv, fe, kp, kv, (upd cc cl (nI (48 * r + t))), (upd cs cl xs), ss, sv, so), ((nI sc), (nI (cl + 1)), (nI h), xb, (nI (st + 1)), 0, (nI (bl_yb r + t)), xs, 1, (nI cl), yc, yt, rk, rv, kY, nY, en, ln, pr, sp, pk, pv, th, ss, po, so, (upd cy cl (vX (48 * r + t))), (upd cb cl (nI (bl_yb r + (t + 1)))), (upd cs cl xs), gt, ph, ge, gk, gv, bp, ok, ov, ob), _, ?_, bl_mkG C (by omega) (by omega) (by omega) (by omega) So (bl_Co_push Co hs hr ht hk) (bl_Po_up (by omega) P) (bl_Vo_up (by omega) V) (bl_St_cg (Nat.le_refl _) (by omega) d h xb s (fun _ _ => rfl) (fun _ _ => rfl) S) (Or.inr ⟨rfl, cl, by omega, rfl, rfl⟩) rfl, fun post hp => br_t (nI_lt (b := 300) (by omega) (by decide)) (nm_r (nI_1 st) ⟨i240, nm_r (e' := kX (48 * r + t)) (by rw [cp]) (br_f k0 (br_f k1 (br_t hk ⟨i3, nm_r (e' := upd cc cl (nI (48 * r + t))) (by rw [cc1]) ⟨i3, nm_r (e' := upd cs cl xs) (by rw [cc1]) ?_⟩⟩)))⟩), fun post hp => br_f ne300 (nm_r (nI_1 st) ⟨j240, nm_r (e' := kX (48 * r + t)) (by rw [cq, kq]) ⟨j240, nm_r (e' := vX (48 * r + t)) (by rw [cq, nq]) (br_f k0 (br_f k1 (br_f k18 (br_t hk ⟨j3, nm_r (e' := upd cy cl (vX (48 * r + t))) (by rw [cc1]) ⟨j3, nm_r (e' := upd cb cl (nI (bl_yb r + (t + 1)))) (by rw [cc1, nI_1]; rfl) ⟨j3, nm_r (e' := upd cs cl xs) (by rw [cc1]) (nm_r (nI_1 cl) hp)⟩⟩⟩))))⟩⟩)⟩
  · omega
  · rw [nI_l (by omega)]; exact nm_r (nI_1 cl) hp
theorem bl_E_var (C : bl_Cf L dl kX vX df pr sp kY nY en ln) (hcl : cl ≤ st) (hst : st ≤ 300) (So : bl_So sp ss so po sc) (Co : bl_Co kX vX L cc cs cy cb sc cl) (P : bl_Po cl pl pk pv) (V : bl_Vo cl sc sv pk pv) (hd : d ≤ st) (hw : 3001 * sc + s ≤ 3010 * st) (S : bl_St kX vX L sc cl (bl_x fc fs fb fd fv fe kp kv) (bl_y gt ph ge gk gv bp ok ov ob) d h xb s) (hs : bl_sc sc xs) (hr : r < 5) (ht : t < L r) (h3 : st < 300) (hk : kX (48 * r + t) = 1) : ∃ u' v' q, q < 3010 * (300 - st) + s + 1 ∧ bl_RR L q u' v' ∧ (∀ post : SX → Prop, post u' → wpX_enterToken post (dl, lr, lc, (nI st), (nI d), (nI cl), (nI sc), 0, (nI (48 * r + t)), xs, xb, xg, xe, kX, vX, df, pr, sp, pl, th, fc, fs, fb, fd, fv, fe, kp, kv, cc, cs, ss, sv, so)) ∧ (∀ post : SY → Prop, post v' → wpY_evaluate post ((nI sc), (nI cl), (nI h), xb, (nI st), 1, (nI (bl_yb r + t)), xs, yk, yv, yc, yt, rk, rv, kY, nY, en, ln, pr, sp, pk, pv, th, ss, po, so, cy, cb, cs, gt, ph, ge, gk, gv, bp, ok, ov, ob)) := by
  have K := C.1
  have p240 := bl_pX K hr ht
  have q240 := bl_pY K hr ht
  have kq := (bl_kY K hr ht).1
  have nq := (bl_kY K hr ht).2
  have tk := K.2.2 _ p240
  have R := C.2.1 r hr (by omega)
  have l48 := K.1 r hr
  have i240 : vp_in (nI (48 * r + t)) 240 := vp_in_nI p240 (by decide)
  have j240 : vp_in (nI (bl_yb r + t)) 240 := vp_in_nI q240 (by decide)
  have cp : (nI (48 * r + t)).toNatClampNeg = 48 * r + t := nI_clamp (by omega)
  have cq : (nI (bl_yb r + t)).toNatClampNeg = bl_yb r + t := nI_clamp (by omega)
  have ne300 : ¬ nI st = 300 := by
    intro z
    have := (nI_eq (a := st) (b := 300) (by omega) (by decide)).mp z
    omega
  have k0 : ¬ kX (48 * r + t) = 0 := by rw [hk]; decide
  obtain ⟨j, hj, ej⟩ := bl_tk8 tk (Or.inl hk)
  obtain ⟨b, hb, rfl⟩ := bl_St_b K _ _ _ _ S
  have hsc : sc ≤ 300 := by omega
  have cl3 : cl < 1000 := by omega
  have main : ∃ (g : Int64) (a c : Int32), bl_vr cl g a c ∧ (∀ post : SX → Prop, wX_giveVariable_34 post g dl lr lc (nI (st + 1)) (nI d) (nI cl) (nI sc) 0 (nI (48 * r + t)) xs (nI b) xg xe kX vX df pr sp pl th fc fs fb fd fv fe kp kv cc cs ss sv so → wpX_giveVariable post (dl, lr, lc, (nI (st + 1)), (nI d), (nI cl), (nI sc), 0, (nI (48 * r + t)), xs, (nI b), xg, xe, kX, vX, df, pr, sp, pl, th, fc, fs, fb, fd, fv, fe, kp, kv, cc, cs, ss, sv, so) (nI j)) ∧ (∀ post : SY → Prop, ((a = 2 → post ((nI sc), (nI cl), (nI h), (nI b), (nI (st + 1)), 2, (nI (bl_yb r + t)), xs, yk, yv, 1, (-1), rk, rv, kY, nY, en, ln, pr, sp, pk, pv, th, ss, po, so, cy, cb, cs, gt, ph, ge, gk, gv, bp, ok, ov, ob)) ∧ (¬ a = 2 → post ((nI sc), (nI cl), (nI h), (nI b), (nI (st + 1)), 0, (nI (bl_yb r + t)), xs, a, c, yc, yt, rk, rv, kY, nY, en, ln, pr, sp, pk, pv, th, ss, po, so, cy, cb, cs, gt, ph, ge, gk, gv, bp, ok, ov, ob))) → wpY_look post ((nI sc), (nI cl), (nI h), (nI b), (nI (st + 1)), 1, (nI (bl_yb r + t)), xs, yk, yv, yc, yt, rk, rv, kY, nY, en, ln, pr, sp, pk, pv, th, ss, po, so, cy, cb, cs, gt, ph, ge, gk, gv, bp, ok, ov, ob) (nI j)) := by
    rcases bl_look (dl := dl) (lr := lr) (lc := lc) (xst := nI (st + 1)) (xd := nI d) (xcl := nI cl) (xsc := nI sc) (xm := 0) (xa := nI (48 * r + t)) (xs := xs) (xb := nI b) (xg := xg) (xe := xe) (kX := kX) (vX := vX) (df := df) (pr := pr) (sp := sp) (pl := pl) (th := th) (fc := fc) (fs := fs) (fb := fb) (fd := fd) (fv := fv) (fe := fe) (kp := kp) (kv := kv) (cc := cc) (cs := cs) (ss := ss) (sv := sv) (so := so) (yen := nI sc) (ycl := nI cl) (yw := nI h) (ym := 1) (ya := nI (bl_yb r + t)) (ys := xs) (yk := yk) (yv := yv) (yc := yc) (yt := yt) (rk := rk) (rv := rv) (kY := kY) (nY := nY) (en := en) (ln := ln) (pk := pk) (pv := pv) (po := po) (cy := cy) (cb := cb) (gt := gt) (ph := ph) (ge := ge) (gk := gk) (gv := gv) (bp := bp) (ok := ok) (ov := ov) (ob := ob) (e := xs) (j := j) So hsc hj hs with ⟨m, hm, hX, hY⟩ | ⟨hX, hY⟩
    · refine ⟨sv m, pk (32 + m), pv (32 + m), V m hm, fun post hp => hX _ (br_f (bl_neg1 (by omega)) ⟨vp_in_nI (by omega) (by decide), ?_⟩), fun post hp => hY _ ⟨vp_in_nI (by omega) (by decide), ?_⟩⟩
      · rw [nI_clamp (by omega)]; exact hp
      · rw [nI_clamp (by omega)]
        exact br_c (fun z => hp.1 z) (fun z => ⟨vp_in_nI (by omega) (by decide), vp_in_nI (by omega) (by decide), hp.2 z⟩)
    · obtain ⟨p, hp0, ep⟩ := bl_pp (th := th) hj hb
      refine ⟨pl p, pk p, pv p, P p hp0, fun post hp => hX _ (br_t rfl (bl_x_pp hj hb ?_)), fun post hp => hY _ (bl_y_pp hj hb ?_)⟩
      · rw [ep]
        refine ⟨vp_in_nI hp0 (by decide), ?_⟩
        rw [nI_clamp (by omega)]; exact hp
      · rw [ep]
        refine ⟨vp_in_nI (by omega) (by decide), ?_⟩
        rw [nI_clamp (by omega)]
        exact br_c (fun z => hp.1 z) (fun z => ⟨vp_in_nI (by omega) (by decide), vp_in_nI (by omega) (by decide), hp.2 z⟩)
  obtain ⟨g, a, c, hv, hX, hY⟩ := main
  by_cases z : a = 2
  · refine ⟨(dl, lr, lc, (nI (st + 1)), (nI d), (nI cl), (nI sc), 2, (nI (48 * r + t)), xs, (nI b), xg, 1, kX, vX, df, pr, sp, pl, th, fc, fs, fb, fd, fv, fe, kp, kv, cc, cs, ss, sv, so), ((nI sc), (nI cl), (nI h), (nI b), (nI (st + 1)), 2, (nI (bl_yb r + t)), xs, yk, yv, 1, (-1), rk, rv, kY, nY, en, ln, pr, sp, pk, pv, th, ss, po, so, cy, cb, cs, gt, ph, ge, gk, gv, bp, ok, ov, ob), _, ?_, bl_mkN C (by omega) (by omega) (by omega) (by omega) So Co P V (Or.inl S) (Or.inl ⟨1, by omega, by omega, rfl, rfl, rfl⟩) rfl, fun post hp => br_t (nI_lt (b := 300) (by omega) (by decide)) (nm_r (nI_1 st) ⟨i240, nm_r (e' := kX (48 * r + t)) (by rw [cp]) (br_f k0 (br_t hk ⟨i240, ?_⟩))⟩), fun post hp => br_f ne300 (nm_r (nI_1 st) ⟨j240, nm_r (e' := kX (48 * r + t)) (by rw [cq, kq]) ⟨j240, nm_r (e' := vX (48 * r + t)) (by rw [cq, nq]) (br_f k0 (br_t hk ?_))⟩⟩)⟩
    · omega
    · rw [cp, ej]
      exact hX _ (br_t ((bl_vr_n cl3 hv).mpr z) hp)
    · rw [ej]
      exact hY _ (br_t z hp)
  · refine ⟨(dl, lr, lc, (nI (st + 1)), (nI d), (nI cl), (nI sc), 1, (nI (48 * r + t)), xs, (nI b), g, 0, kX, vX, df, pr, sp, pl, th, fc, fs, fb, fd, fv, fe, kp, kv, cc, cs, ss, sv, so), ((nI sc), (nI cl), (nI h), (nI b), (nI (st + 1)), 0, (nI (bl_yb r + t)), xs, a, c, yc, yt, rk, rv, kY, nY, en, ln, pr, sp, pk, pv, th, ss, po, so, cy, cb, cs, gt, ph, ge, gk, gv, bp, ok, ov, ob), _, ?_, bl_mkG C (by omega) (by omega) (by omega) (by omega) So Co P V S (bl_vr_g hv z) rfl, fun post hp => br_t (nI_lt (b := 300) (by omega) (by decide)) (nm_r (nI_1 st) ⟨i240, nm_r (e' := kX (48 * r + t)) (by rw [cp]) (br_f k0 (br_t hk ⟨i240, ?_⟩))⟩), fun post hp => br_f ne300 (nm_r (nI_1 st) ⟨j240, nm_r (e' := kX (48 * r + t)) (by rw [cq, kq]) ⟨j240, nm_r (e' := vX (48 * r + t)) (by rw [cq, nq]) (br_f k0 (br_t hk ?_))⟩⟩)⟩
    · omega
    · rw [cp, ej]
      exact hX _ (br_f (fun y => z ((bl_vr_n cl3 hv).mp y)) hp)
    · rw [ej]
      exact hY _ (br_f z hp)
theorem bl_St_mk {hb : Int32} (hr : r < 5) (ht : t < L r) (c1 : fc d = nI (48 * r + t)) (c2 : gt h = nI (bl_yb r + t)) (c3 : fs d = ge h) (c4 : bl_sc sc (fs d)) (c5 : fb d = ob h) (c6 : fd d = nI e) (c7 : w = bl_wt (kX (48 * r + t)) e) (c8 : hb = if kX (48 * r + t) = 16 then vX (48 * r + t) else fb d) (c9 : bl_ph cl (bl_hc kX vX (bl_x fc fs fb fd fv fe kp kv) d) (kX (48 * r + t)) e (fv d) (fe d) (kp d) (kv d) (ph h) (gk h) (gv h) (bp h) (ok h) (ov h)) (S : bl_St kX vX L sc cl (bl_x fc fs fb fd fv fe kp kv) (bl_y gt ph ge gk gv bp ok ov ob) d h (fb d) s) : bl_St kX vX L sc cl (bl_x fc fs fb fd fv fe kp kv) (bl_y gt ph ge gk gv bp ok ov ob) (d + 1) (h + 1) hb (w + s) :=
  Or.inr ⟨h, s, w, rfl, rfl, ⟨r, t, e, hr, ht, c1, c2, c3, c4, c5, c6, c7, c8, c9⟩, S⟩
theorem bl_E_open (C : bl_Cf L dl kX vX df pr sp kY nY en ln) (hcl : cl ≤ st) (hst : st ≤ 300) (So : bl_So sp ss so po sc) (Co : bl_Co kX vX L cc cs cy cb sc cl) (P : bl_Po cl pl pk pv) (V : bl_Vo cl sc sv pk pv) (hd : d ≤ st) (hw : 3001 * sc + s ≤ 3010 * st) (S : bl_St kX vX L sc cl (bl_x fc fs fb fd fv fe kp kv) (bl_y gt ph ge gk gv bp ok ov ob) d h xb s) (hs : bl_sc sc xs) (hr : r < 5) (ht : t < L r) (h3 : st < 300) (hk : kX (48 * r + t) = 2 ∨ kX (48 * r + t) = 3 ∨ kX (48 * r + t) = 5 ∨ kX (48 * r + t) = 6 ∨ kX (48 * r + t) = 7 ∨ kX (48 * r + t) = 8 ∨ kX (48 * r + t) = 9 ∨ kX (48 * r + t) = 10 ∨ kX (48 * r + t) = 11 ∨ kX (48 * r + t) = 12 ∨ kX (48 * r + t) = 13 ∨ kX (48 * r + t) = 14 ∨ kX (48 * r + t) = 15 ∨ kX (48 * r + t) = 16 ∨ kX (48 * r + t) = 17) : ∃ u' v' q, q < 3010 * (300 - st) + s + 1 ∧ bl_RR L q u' v' ∧ (∀ post : SX → Prop, post u' → wpX_enterToken post (dl, lr, lc, (nI st), (nI d), (nI cl), (nI sc), 0, (nI (48 * r + t)), xs, xb, xg, xe, kX, vX, df, pr, sp, pl, th, fc, fs, fb, fd, fv, fe, kp, kv, cc, cs, ss, sv, so)) ∧ (∀ post : SY → Prop, post v' → wpY_evaluate post ((nI sc), (nI cl), (nI h), xb, (nI st), 1, (nI (bl_yb r + t)), xs, yk, yv, yc, yt, rk, rv, kY, nY, en, ln, pr, sp, pk, pv, th, ss, po, so, cy, cb, cs, gt, ph, ge, gk, gv, bp, ok, ov, ob)) := by
  have K := C.1
  have p240 := bl_pX K hr ht
  have q240 := bl_pY K hr ht
  have kq := (bl_kY K hr ht).1
  have nq := (bl_kY K hr ht).2
  have tk := K.2.2 _ p240
  have R := C.2.1 r hr (by omega)
  have l48 := K.1 r hr
  have i240 : vp_in (nI (48 * r + t)) 240 := vp_in_nI p240 (by decide)
  have j240 : vp_in (nI (bl_yb r + t)) 240 := vp_in_nI q240 (by decide)
  have cp : (nI (48 * r + t)).toNatClampNeg = 48 * r + t := nI_clamp (by omega)
  have cq : (nI (bl_yb r + t)).toNatClampNeg = bl_yb r + t := nI_clamp (by omega)
  have ne300 : ¬ nI st = 300 := by
    intro z
    have := (nI_eq (a := st) (b := 300) (by omega) (by decide)).mp z
    omega
  have hh := bl_St_le _ _ _ _ S
  have nk : ¬ kX (48 * r + t) = 0 ∧ ¬ kX (48 * r + t) = 1 ∧ ¬ kX (48 * r + t) = 4 ∧ ¬ kX (48 * r + t) = 18 ∧ 0 < bl_ar (kX (48 * r + t)) := by
    rcases hk with z | z | z | z | z | z | z | z | z | z | z | z | z | z | z <;> rw [z] <;> decide
  obtain ⟨k0, k1, k4, k18, ka⟩ := nk
  have t1 := bl_p0 R ht ka
  have cd : (nI d).toNatClampNeg = d := nI_clamp (by omega)
  have ch : (nI h).toNatClampNeg = h := nI_clamp (by omega)
  have i3 : vp_in (nI d) 300 := vp_in_nI (by omega) (by decide)
  have j3 : vp_in (nI h) 320 := vp_in_nI (by omega) (by decide)
  refine ⟨(dl, lr, lc, (nI (st + 1)), (nI (d + 1)), (nI cl), (nI sc), 0, (nI (48 * r + (t + 1))), xs, (if kX (48 * r + t) = 16 then vX (48 * r + t) else xb), xg, xe, kX, vX, df, pr, sp, pl, th, (upd fc d (nI (48 * r + t))), (upd fs d xs), (upd fb d xb), (upd fd d 0), fv, fe, (upd kp d (-1)), kv, cc, cs, ss, sv, so), ((nI sc), (nI cl), (nI (h + 1)), (if kX (48 * r + t) = 16 then vX (48 * r + t) else xb), (nI (st + 1)), 1, (nI (bl_yb r + (t + 1))), xs, yk, yv, yc, yt, rk, rv, kY, nY, en, ln, pr, sp, pk, pv, th, ss, po, so, cy, cb, cs, (upd gt h (nI (bl_yb r + t))), (upd ph h 0), (upd ge h xs), gk, gv, (upd bp h (-1)), ok, ov, (upd ob h xb)), 3010 * (300 - (st + 1)) + (3009 + s) + 1, by omega, bl_mkE (s := 3009 + s) C (by omega) (by omega) (by omega) (by omega) So Co P V ?_ hs hr t1 rfl, fun post hp => br_t (nI_lt (b := 300) (by omega) (by decide)) (nm_r (nI_1 st) ⟨i240, nm_r (e' := kX (48 * r + t)) (by rw [cp]) (br_f k0 (br_f k1 (br_f k4 (br_f k18 ⟨i3, nm_r (e' := upd fc d (nI (48 * r + t))) (by rw [cd]) ⟨i3, nm_r (e' := upd fs d xs) (by rw [cd]) ⟨i3, nm_r (e' := upd fb d xb) (by rw [cd]) ⟨i3, nm_r (e' := upd fd d 0) (by rw [cd]) ⟨i3, nm_r (e' := upd kp d (-1)) (by rw [cd]) (nm_r (nI_1 d) ⟨i240, ?_⟩)⟩⟩⟩⟩⟩))))⟩), fun post hp => br_f ne300 (nm_r (nI_1 st) ⟨j240, nm_r (e' := kX (48 * r + t)) (by rw [cq, kq]) ⟨j240, nm_r (e' := vX (48 * r + t)) (by rw [cq, nq]) (br_f k0 (br_f k1 (br_f k18 (br_f k4 ⟨j3, nm_r (e' := upd gt h (nI (bl_yb r + t))) (by rw [ch]) ⟨j3, nm_r (e' := upd ph h 0) (by rw [ch]) ⟨j3, nm_r (e' := upd ge h xs) (by rw [ch]) ⟨j3, nm_r (e' := upd bp h (-1)) (by rw [ch]) ⟨j3, nm_r (e' := upd ob h xb) (by rw [ch]) (nm_r (nI_1 h) ?_)⟩⟩⟩⟩⟩))))⟩⟩)⟩
  · refine bl_St_mk (r := r) (t := t) (e := 0) hr ht pk_us pk_us (pk_us.trans pk_us.symm) ?_ (pk_us.trans pk_us.symm) pk_us (by simp [bl_wt]) ?_ (Or.inl ⟨rfl, pk_us, hk, pk_us, pk_us⟩) ?_
    · rw [pk_us]; exact hs
    · rw [pk_us]
    · rw [pk_us]
      refine bl_St_cg (Nat.le_refl _) (Nat.le_refl _) d h xb s (fun i hi => ?_) (fun i hi => ?_) S
      · have : i ≠ d := by omega
        simp only [bl_x, pk_un this]
      · have : i ≠ h := by omega
        simp only [bl_y, pk_un this]
  · rw [cp]
    by_cases z : kX (48 * r + t) = 16
    · rw [if_pos z] at hp
      refine br_t z ⟨i240, nm_r (e' := vX (48 * r + t)) rfl (bl_x_sp1 (by omega) p240 pk_us ?_)⟩
      rw [pk_us]; exact hp
    · rw [if_neg z] at hp
      refine br_f z (bl_x_sp1 (by omega) p240 pk_us ?_)
      rw [pk_us]; exact hp
  · by_cases z : kX (48 * r + t) = 16
    · rw [if_pos z] at hp
      refine br_t z ?_
      rw [show nI (bl_yb r + (t + 1)) = nI (bl_yb r + t) + 1 from (nI_1 _).symm] at hp
      exact hp
    · rw [if_neg z] at hp
      refine br_f z ?_
      rw [show nI (bl_yb r + (t + 1)) = nI (bl_yb r + t) + 1 from (nI_1 _).symm] at hp
      exact hp
end
end
section
/-! turns: a value is given to the frame on top -/
section
variable {dl lc xst xd xcl xsc xm xa xs xb xe yen ycl yw ym ya ys yk yv yc yt rk rv : Int32}
variable {lr xg : Int64}
variable {kX vX df pr sp th fc fs fb fd fe kp cc cs ss so kY nY en ln pk pv po cy cb gt ph ge gk gv bp ok ov ob : Nat → Int32}
variable {pl fv kv sv : Nat → Int64}
variable {L : Nat → Nat} {q d h sc cl st s r t m m2 p j b w e : Nat}
theorem bl_G_close12 (C : bl_Cf L dl kX vX df pr sp kY nY en ln) (hcl : cl ≤ st) (hst : st ≤ 300) (So : bl_So sp ss so po sc) (Co : bl_Co kX vX L cc cs cy cb sc cl) (P : bl_Po cl pl pk pv) (V : bl_Vo cl sc sv pk pv) (hd : d + 1 ≤ st) (hw : 3001 * sc + (3009 + s) ≤ 3010 * st) (S : bl_St kX vX L sc cl (bl_x fc fs fb fd fv fe kp kv) (bl_y gt ph ge gk gv bp ok ov ob) d h (fb d) s) (hg : bl_vg cl xg yk yv) (hr : r < 5) (ht : t < L r) (hfc : fc d = nI (48 * r + t)) (hgt : gt h = nI (bl_yb r + t)) (hge : fs d = ge h) (hfs : bl_sc sc (fs d)) (hob : fb d = ob h) (hk : kX (48 * r + t) = 12) (hfd : fd d = 0) (hph : ph h = 0) (hbd : bl_bd cl (kp d) (kv d) (bp h) (ok h) (ov h)) : ∃ u' v' q, q < 3010 * (300 - st) + (3009 + s) ∧ bl_RR L q u' v' ∧ (∀ post : SX → Prop, post u' → wpX_resumeFrame post (dl, lr, lc, (nI st), (nI (d + 1)), (nI cl), (nI sc), 1, xa, xs, xb, xg, 0, kX, vX, df, pr, sp, pl, th, fc, fs, fb, fd, fv, fe, kp, kv, cc, cs, ss, sv, so)) ∧ (∀ post : SY → Prop, post v' → wpY_give post ((nI sc), (nI cl), (nI (h + 1)), xb, (nI st), 0, ya, ys, yk, yv, yc, yt, rk, rv, kY, nY, en, ln, pr, sp, pk, pv, th, ss, po, so, cy, cb, cs, gt, ph, ge, gk, gv, bp, ok, ov, ob)) := by
  have K := C.1
  have p240 := bl_pX K hr ht
  have q240 := bl_pY K hr ht
  have kq := (bl_kY K hr ht).1
  have nq := (bl_kY K hr ht).2
  have tk := K.2.2 _ p240
  have R := C.2.1 r hr (by omega)
  have l48 := K.1 r hr
  have i240 : vp_in (nI (48 * r + t)) 240 := vp_in_nI p240 (by decide)
  have j240 : vp_in (nI (bl_yb r + t)) 240 := vp_in_nI q240 (by decide)
  have cp : (nI (48 * r + t)).toNatClampNeg = 48 * r + t := nI_clamp (by omega)
  have cq : (nI (bl_yb r + t)).toNatClampNeg = bl_yb r + t := nI_clamp (by omega)
  have hh := bl_St_le _ _ _ _ S
  have d3 : d < 300 := by omega
  have h3 : h < 320 := by omega
  have cd : (nI d).toNatClampNeg = d := nI_clamp (by omega)
  have ch : (nI h).toNatClampNeg = h := nI_clamp (by omega)
  have i3 : vp_in (nI d) 300 := vp_in_nI d3 (by decide)
  have j3 : vp_in (nI h) 320 := vp_in_nI h3 (by decide)
  have cl3 : cl < 1000 := by omega
  obtain ⟨pl', pk', pv', bp', P', V', hbp, hX, hY⟩ := bl_close (dl := dl) (lr := lr) (lc := lc) (xst := nI st) (xcl := nI cl) (xsc := nI sc) (xm := 1) (xa := xa) (xs := xs) (xb := xb) (xg := xg) (xe := 0) (kX := kX) (vX := vX) (df := df) (pr := pr) (sp := sp) (pl := pl) (th := th) (fc := fc) (fs := fs) (fb := fb) (fd := upd fd d 1) (fv := fv) (fe := fe) (kp := kp) (kv := kv) (cc := cc) (cs := cs) (ss := ss) (sv := sv) (so := so) (yen := nI sc) (ycl := nI cl) (yw := nI h) (ym := 0) (ya := ya) (ys := ys) (yk := yk) (yv := yv) (yc := yc) (yt := yt) (rk := rk) (rv := rv) (kY := kY) (nY := nY) (en := en) (ln := ln) (pk := pk) (pv := pv) (po := po) (cy := cy) (cb := cb) (gt := gt) (ph := upd ph h 1) (ge := ge) (gk := gk) (gv := gv) (bp := bp) (ok := ok) (ov := ov) (ob := ob) d3 h3 hbd P V
  refine ⟨(dl, lr, lc, (nI st), (nI d), (nI cl), (nI sc), 1, xa, xs, (fb d), xg, 0, kX, vX, df, pr, sp, pl', th, fc, fs, fb, (upd fd d 1), fv, fe, kp, kv, cc, cs, ss, sv, so), ((nI sc), (nI cl), (nI h), (fb d), (nI st), 0, ya, ys, yk, yv, yc, yt, rk, rv, kY, nY, en, ln, pr, sp, pk', pv', th, ss, po, so, cy, cb, cs, gt, (upd ph h 1), ge, gk, gv, bp', ok, ov, ob), _, ?_, bl_mkG (s := s) C (by omega) hcl hst (by omega) So Co P' V' ?_ hg rfl, fun post hp => ?_, fun post hp => ?_⟩
  · omega
  · exact bl_St_cg (Nat.le_refl _) (Nat.le_refl _) d h _ s (fun i hi => by simp only [bl_x, upd, vp_updL, if_neg (show ¬ i = d by omega)]) (fun i hi => by simp only [bl_y, upd, if_neg (show ¬ i = h by omega), hbp i (by omega)]) S
  · exact nm_r (nI_pred d) ⟨i3, nm_r (e' := nI (48 * r + t)) (by rw [cd, hfc]) ⟨i3, i3, nm_r (e' := upd fd d 1) (by rw [cd, hfd]; rfl) ⟨i240, nm_r (e' := 12) (by rw [cp, hk]) (br_f (by decide) (br_f (by decide) (br_f (by decide) (br_f (by decide) (br_f (by decide) (br_f (by decide) (br_f (by decide) (br_f (by decide) (br_f (by decide) (br_f (by decide) (br_f (by decide) (br_f (by decide) (br_t rfl (hX _ hp))))))))))))))⟩⟩⟩
  · exact nm_r (nI_pred h) ⟨j3, nm_r (e' := nI (bl_yb r + t)) (by rw [ch, hgt]) ⟨j240, nm_r (e' := 12) (by rw [cq, kq, hk]) ⟨j240, nm_r (e' := vX (48 * r + t)) (by rw [cq, nq]) ⟨j3, nm_r (e' := 0) (by rw [ch, hph]) ⟨j3, j3, nm_r (e' := upd ph h 1) (by rw [ch, hph]; rfl) (br_f (by decide) (br_f (by decide) (br_t (by decide) (br_t rfl (br_f (by decide) (br_t rfl (br_f (by decide) (br_f (by decide) (br_f (by decide) (br_f (by decide) (br_f (by decide) (br_f (by decide) (br_f (by decide) (br_f (by decide) (br_f (by decide) (br_f (by decide) (nm_r (nI_pred h) (hY _ ⟨j3, nm_r (e' := fb d) (by rw [ch, hob]) (br_f (by decide) (br_f (by decide) (br_f (by decide) (br_t (by decide) (br_f (by decide) (br_f (by decide) (br_f (by decide) hp)))))))⟩))))))))))))))))))⟩⟩⟩⟩⟩
theorem bl_G_close14 (C : bl_Cf L dl kX vX df pr sp kY nY en ln) (hcl : cl ≤ st) (hst : st ≤ 300) (So : bl_So sp ss so po sc) (Co : bl_Co kX vX L cc cs cy cb sc cl) (P : bl_Po cl pl pk pv) (V : bl_Vo cl sc sv pk pv) (hd : d + 1 ≤ st) (hw : 3001 * sc + (3009 + s) ≤ 3010 * st) (S : bl_St kX vX L sc cl (bl_x fc fs fb fd fv fe kp kv) (bl_y gt ph ge gk gv bp ok ov ob) d h (fb d) s) (hg : bl_vg cl xg yk yv) (hr : r < 5) (ht : t < L r) (hfc : fc d = nI (48 * r + t)) (hgt : gt h = nI (bl_yb r + t)) (hge : fs d = ge h) (hfs : bl_sc sc (fs d)) (hob : fb d = ob h) (hk : kX (48 * r + t) = 14) (hfd : fd d = 0) (hph : ph h = 0) (hbd : bl_bd cl (kp d) (kv d) (bp h) (ok h) (ov h)) : ∃ u' v' q, q < 3010 * (300 - st) + (3009 + s) ∧ bl_RR L q u' v' ∧ (∀ post : SX → Prop, post u' → wpX_resumeFrame post (dl, lr, lc, (nI st), (nI (d + 1)), (nI cl), (nI sc), 1, xa, xs, xb, xg, 0, kX, vX, df, pr, sp, pl, th, fc, fs, fb, fd, fv, fe, kp, kv, cc, cs, ss, sv, so)) ∧ (∀ post : SY → Prop, post v' → wpY_give post ((nI sc), (nI cl), (nI (h + 1)), xb, (nI st), 0, ya, ys, yk, yv, yc, yt, rk, rv, kY, nY, en, ln, pr, sp, pk, pv, th, ss, po, so, cy, cb, cs, gt, ph, ge, gk, gv, bp, ok, ov, ob)) := by
  have K := C.1
  have p240 := bl_pX K hr ht
  have q240 := bl_pY K hr ht
  have kq := (bl_kY K hr ht).1
  have nq := (bl_kY K hr ht).2
  have tk := K.2.2 _ p240
  have R := C.2.1 r hr (by omega)
  have l48 := K.1 r hr
  have i240 : vp_in (nI (48 * r + t)) 240 := vp_in_nI p240 (by decide)
  have j240 : vp_in (nI (bl_yb r + t)) 240 := vp_in_nI q240 (by decide)
  have cp : (nI (48 * r + t)).toNatClampNeg = 48 * r + t := nI_clamp (by omega)
  have cq : (nI (bl_yb r + t)).toNatClampNeg = bl_yb r + t := nI_clamp (by omega)
  have hh := bl_St_le _ _ _ _ S
  have d3 : d < 300 := by omega
  have h3 : h < 320 := by omega
  have cd : (nI d).toNatClampNeg = d := nI_clamp (by omega)
  have ch : (nI h).toNatClampNeg = h := nI_clamp (by omega)
  have i3 : vp_in (nI d) 300 := vp_in_nI d3 (by decide)
  have j3 : vp_in (nI h) 320 := vp_in_nI h3 (by decide)
  have cl3 : cl < 1000 := by omega
  obtain ⟨pl', pk', pv', bp', P', V', hbp, hX, hY⟩ := bl_close (dl := dl) (lr := lr) (lc := lc) (xst := nI st) (xcl := nI cl) (xsc := nI sc) (xm := 1) (xa := xa) (xs := xs) (xb := xb) (xg := xg) (xe := 0) (kX := kX) (vX := vX) (df := df) (pr := pr) (sp := sp) (pl := pl) (th := th) (fc := fc) (fs := fs) (fb := fb) (fd := upd fd d 1) (fv := fv) (fe := fe) (kp := kp) (kv := kv) (cc := cc) (cs := cs) (ss := ss) (sv := sv) (so := so) (yen := nI sc) (ycl := nI cl) (yw := nI h) (ym := 0) (ya := ya) (ys := ys) (yk := yk) (yv := yv) (yc := yc) (yt := yt) (rk := rk) (rv := rv) (kY := kY) (nY := nY) (en := en) (ln := ln) (pk := pk) (pv := pv) (po := po) (cy := cy) (cb := cb) (gt := gt) (ph := upd ph h 1) (ge := ge) (gk := gk) (gv := gv) (bp := bp) (ok := ok) (ov := ov) (ob := ob) d3 h3 hbd P V
  refine ⟨(dl, lr, lc, (nI st), (nI d), (nI cl), (nI sc), 1, xa, xs, (fb d), xg, 0, kX, vX, df, pr, sp, pl', th, fc, fs, fb, (upd fd d 1), fv, fe, kp, kv, cc, cs, ss, sv, so), ((nI sc), (nI cl), (nI h), (fb d), (nI st), 0, ya, ys, yk, yv, yc, yt, rk, rv, kY, nY, en, ln, pr, sp, pk', pv', th, ss, po, so, cy, cb, cs, gt, (upd ph h 1), ge, gk, gv, bp', ok, ov, ob), _, ?_, bl_mkG (s := s) C (by omega) hcl hst (by omega) So Co P' V' ?_ hg rfl, fun post hp => ?_, fun post hp => ?_⟩
  · omega
  · exact bl_St_cg (Nat.le_refl _) (Nat.le_refl _) d h _ s (fun i hi => by simp only [bl_x, upd, vp_updL, if_neg (show ¬ i = d by omega)]) (fun i hi => by simp only [bl_y, upd, if_neg (show ¬ i = h by omega), hbp i (by omega)]) S
  · exact nm_r (nI_pred d) ⟨i3, nm_r (e' := nI (48 * r + t)) (by rw [cd, hfc]) ⟨i3, i3, nm_r (e' := upd fd d 1) (by rw [cd, hfd]; rfl) ⟨i240, nm_r (e' := 14) (by rw [cp, hk]) (br_f (by decide) (br_f (by decide) (br_f (by decide) (br_f (by decide) (br_f (by decide) (br_f (by decide) (br_f (by decide) (br_f (by decide) (br_f (by decide) (br_f (by decide) (br_f (by decide) (br_f (by decide) (br_f (by decide) (br_f (by decide) (br_t rfl (hX _ hp))))))))))))))))⟩⟩⟩
  · exact nm_r (nI_pred h) ⟨j3, nm_r (e' := nI (bl_yb r + t)) (by rw [ch, hgt]) ⟨j240, nm_r (e' := 14) (by rw [cq, kq, hk]) ⟨j240, nm_r (e' := vX (48 * r + t)) (by rw [cq, nq]) ⟨j3, nm_r (e' := 0) (by rw [ch, hph]) ⟨j3, j3, nm_r (e' := upd ph h 1) (by rw [ch, hph]; rfl) (br_f (by decide) (br_f (by decide) (br_t (by decide) (br_t rfl (br_f (by decide) (br_t rfl (br_f (by decide) (br_f (by decide) (br_f (by decide) (br_f (by decide) (br_f (by decide) (br_f (by decide) (br_f (by decide) (br_f (by decide) (br_f (by decide) (br_f (by decide) (nm_r (nI_pred h) (hY _ ⟨j3, nm_r (e' := fb d) (by rw [ch, hob]) (br_f (by decide) (br_f (by decide) (br_f (by decide) (br_t (by decide) (br_f (by decide) (br_f (by decide) (br_f (by decide) hp)))))))⟩))))))))))))))))))⟩⟩⟩⟩⟩
theorem bl_G_close16 (C : bl_Cf L dl kX vX df pr sp kY nY en ln) (hcl : cl ≤ st) (hst : st ≤ 300) (So : bl_So sp ss so po sc) (Co : bl_Co kX vX L cc cs cy cb sc cl) (P : bl_Po cl pl pk pv) (V : bl_Vo cl sc sv pk pv) (hd : d + 1 ≤ st) (hw : 3001 * sc + (3009 + s) ≤ 3010 * st) (S : bl_St kX vX L sc cl (bl_x fc fs fb fd fv fe kp kv) (bl_y gt ph ge gk gv bp ok ov ob) d h (fb d) s) (hg : bl_vg cl xg yk yv) (hr : r < 5) (ht : t < L r) (hfc : fc d = nI (48 * r + t)) (hgt : gt h = nI (bl_yb r + t)) (hge : fs d = ge h) (hfs : bl_sc sc (fs d)) (hob : fb d = ob h) (hk : kX (48 * r + t) = 16) (hfd : fd d = 0) (hph : ph h = 0) (hbd : bl_bd cl (kp d) (kv d) (bp h) (ok h) (ov h)) : ∃ u' v' q, q < 3010 * (300 - st) + (3009 + s) ∧ bl_RR L q u' v' ∧ (∀ post : SX → Prop, post u' → wpX_resumeFrame post (dl, lr, lc, (nI st), (nI (d + 1)), (nI cl), (nI sc), 1, xa, xs, xb, xg, 0, kX, vX, df, pr, sp, pl, th, fc, fs, fb, fd, fv, fe, kp, kv, cc, cs, ss, sv, so)) ∧ (∀ post : SY → Prop, post v' → wpY_give post ((nI sc), (nI cl), (nI (h + 1)), xb, (nI st), 0, ya, ys, yk, yv, yc, yt, rk, rv, kY, nY, en, ln, pr, sp, pk, pv, th, ss, po, so, cy, cb, cs, gt, ph, ge, gk, gv, bp, ok, ov, ob)) := by
  have K := C.1
  have p240 := bl_pX K hr ht
  have q240 := bl_pY K hr ht
  have kq := (bl_kY K hr ht).1
  have nq := (bl_kY K hr ht).2
  have tk := K.2.2 _ p240
  have R := C.2.1 r hr (by omega)
  have l48 := K.1 r hr
  have i240 : vp_in (nI (48 * r + t)) 240 := vp_in_nI p240 (by decide)
  have j240 : vp_in (nI (bl_yb r + t)) 240 := vp_in_nI q240 (by decide)
  have cp : (nI (48 * r + t)).toNatClampNeg = 48 * r + t := nI_clamp (by omega)
  have cq : (nI (bl_yb r + t)).toNatClampNeg = bl_yb r + t := nI_clamp (by omega)
  have hh := bl_St_le _ _ _ _ S
  have d3 : d < 300 := by omega
  have h3 : h < 320 := by omega
  have cd : (nI d).toNatClampNeg = d := nI_clamp (by omega)
  have ch : (nI h).toNatClampNeg = h := nI_clamp (by omega)
  have i3 : vp_in (nI d) 300 := vp_in_nI d3 (by decide)
  have j3 : vp_in (nI h) 320 := vp_in_nI h3 (by decide)
  have cl3 : cl < 1000 := by omega
  obtain ⟨pl', pk', pv', bp', P', V', hbp, hX, hY⟩ := bl_close (dl := dl) (lr := lr) (lc := lc) (xst := nI st) (xcl := nI cl) (xsc := nI sc) (xm := 1) (xa := xa) (xs := xs) (xb := xb) (xg := xg) (xe := 0) (kX := kX) (vX := vX) (df := df) (pr := pr) (sp := sp) (pl := pl) (th := th) (fc := fc) (fs := fs) (fb := fb) (fd := upd fd d 1) (fv := fv) (fe := fe) (kp := kp) (kv := kv) (cc := cc) (cs := cs) (ss := ss) (sv := sv) (so := so) (yen := nI sc) (ycl := nI cl) (yw := nI h) (ym := 0) (ya := ya) (ys := ys) (yk := yk) (yv := yv) (yc := yc) (yt := yt) (rk := rk) (rv := rv) (kY := kY) (nY := nY) (en := en) (ln := ln) (pk := pk) (pv := pv) (po := po) (cy := cy) (cb := cb) (gt := gt) (ph := upd ph h 1) (ge := ge) (gk := gk) (gv := gv) (bp := bp) (ok := ok) (ov := ov) (ob := ob) d3 h3 hbd P V
  refine ⟨(dl, lr, lc, (nI st), (nI d), (nI cl), (nI sc), 1, xa, xs, (fb d), xg, 0, kX, vX, df, pr, sp, pl', th, fc, fs, fb, (upd fd d 1), fv, fe, kp, kv, cc, cs, ss, sv, so), ((nI sc), (nI cl), (nI h), (fb d), (nI st), 0, ya, ys, yk, yv, yc, yt, rk, rv, kY, nY, en, ln, pr, sp, pk', pv', th, ss, po, so, cy, cb, cs, gt, (upd ph h 1), ge, gk, gv, bp', ok, ov, ob), _, ?_, bl_mkG (s := s) C (by omega) hcl hst (by omega) So Co P' V' ?_ hg rfl, fun post hp => ?_, fun post hp => ?_⟩
  · omega
  · exact bl_St_cg (Nat.le_refl _) (Nat.le_refl _) d h _ s (fun i hi => by simp only [bl_x, upd, vp_updL, if_neg (show ¬ i = d by omega)]) (fun i hi => by simp only [bl_y, upd, if_neg (show ¬ i = h by omega), hbp i (by omega)]) S
  · exact nm_r (nI_pred d) ⟨i3, nm_r (e' := nI (48 * r + t)) (by rw [cd, hfc]) ⟨i3, i3, nm_r (e' := upd fd d 1) (by rw [cd, hfd]; rfl) ⟨i240, nm_r (e' := 16) (by rw [cp, hk]) (br_f (by decide) (br_f (by decide) (br_f (by decide) (br_f (by decide) (br_f (by decide) (br_f (by decide) (br_f (by decide) (br_f (by decide) (br_f (by decide) (br_f (by decide) (br_f (by decide) (br_f (by decide) (br_f (by decide) (br_f (by decide) (br_f (by decide) (br_f (by decide) (br_t rfl (hX _ hp))))))))))))))))))⟩⟩⟩
  · exact nm_r (nI_pred h) ⟨j3, nm_r (e' := nI (bl_yb r + t)) (by rw [ch, hgt]) ⟨j240, nm_r (e' := 16) (by rw [cq, kq, hk]) ⟨j240, nm_r (e' := vX (48 * r + t)) (by rw [cq, nq]) ⟨j3, nm_r (e' := 0) (by rw [ch, hph]) ⟨j3, j3, nm_r (e' := upd ph h 1) (by rw [ch, hph]; rfl) (br_f (by decide) (br_f (by decide) (br_t (by decide) (br_t rfl (br_f (by decide) (br_t rfl (br_f (by decide) (br_f (by decide) (br_f (by decide) (br_f (by decide) (br_f (by decide) (br_f (by decide) (br_f (by decide) (br_f (by decide) (br_f (by decide) (br_f (by decide) (nm_r (nI_pred h) (hY _ ⟨j3, nm_r (e' := fb d) (by rw [ch, hob]) (br_f (by decide) (br_f (by decide) (br_f (by decide) (br_t (by decide) (br_f (by decide) (br_f (by decide) (br_f (by decide) hp)))))))⟩))))))))))))))))))⟩⟩⟩⟩⟩
theorem bl_G_close3 (C : bl_Cf L dl kX vX df pr sp kY nY en ln) (hcl : cl ≤ st) (hst : st ≤ 300) (So : bl_So sp ss so po sc) (Co : bl_Co kX vX L cc cs cy cb sc cl) (P : bl_Po cl pl pk pv) (V : bl_Vo cl sc sv pk pv) (hd : d + 1 ≤ st) (hw : 3001 * sc + (6 + s) ≤ 3010 * st) (S : bl_St kX vX L sc cl (bl_x fc fs fb fd fv fe kp kv) (bl_y gt ph ge gk gv bp ok ov ob) d h (fb d) s) (hg : bl_vg cl xg yk yv) (hr : r < 5) (ht : t < L r) (hfc : fc d = nI (48 * r + t)) (hgt : gt h = nI (bl_yb r + t)) (hge : fs d = ge h) (hfs : bl_sc sc (fs d)) (hob : fb d = ob h) (hk : kX (48 * r + t) = 3) (hfd : fd d = 1) (hph : ph h = 1) (hbd : bl_bd cl (kp d) (kv d) (bp h) (ok h) (ov h)) : ∃ u' v' q, q < 3010 * (300 - st) + (6 + s) ∧ bl_RR L q u' v' ∧ (∀ post : SX → Prop, post u' → wpX_resumeFrame post (dl, lr, lc, (nI st), (nI (d + 1)), (nI cl), (nI sc), 1, xa, xs, xb, xg, 0, kX, vX, df, pr, sp, pl, th, fc, fs, fb, fd, fv, fe, kp, kv, cc, cs, ss, sv, so)) ∧ (∀ post : SY → Prop, post v' → wpY_give post ((nI sc), (nI cl), (nI (h + 1)), xb, (nI st), 0, ya, ys, yk, yv, yc, yt, rk, rv, kY, nY, en, ln, pr, sp, pk, pv, th, ss, po, so, cy, cb, cs, gt, ph, ge, gk, gv, bp, ok, ov, ob)) := by
  have K := C.1
  have p240 := bl_pX K hr ht
  have q240 := bl_pY K hr ht
  have kq := (bl_kY K hr ht).1
  have nq := (bl_kY K hr ht).2
  have tk := K.2.2 _ p240
  have R := C.2.1 r hr (by omega)
  have l48 := K.1 r hr
  have i240 : vp_in (nI (48 * r + t)) 240 := vp_in_nI p240 (by decide)
  have j240 : vp_in (nI (bl_yb r + t)) 240 := vp_in_nI q240 (by decide)
  have cp : (nI (48 * r + t)).toNatClampNeg = 48 * r + t := nI_clamp (by omega)
  have cq : (nI (bl_yb r + t)).toNatClampNeg = bl_yb r + t := nI_clamp (by omega)
  have hh := bl_St_le _ _ _ _ S
  have d3 : d < 300 := by omega
  have h3 : h < 320 := by omega
  have cd : (nI d).toNatClampNeg = d := nI_clamp (by omega)
  have ch : (nI h).toNatClampNeg = h := nI_clamp (by omega)
  have i3 : vp_in (nI d) 300 := vp_in_nI d3 (by decide)
  have j3 : vp_in (nI h) 320 := vp_in_nI h3 (by decide)
  have cl3 : cl < 1000 := by omega
  obtain ⟨pl', pk', pv', bp', P', V', hbp, hX, hY⟩ := bl_close (dl := dl) (lr := lr) (lc := lc) (xst := nI st) (xcl := nI cl) (xsc := nI sc) (xm := 1) (xa := xa) (xs := xs) (xb := xb) (xg := xg) (xe := 0) (kX := kX) (vX := vX) (df := df) (pr := pr) (sp := sp) (pl := pl) (th := th) (fc := fc) (fs := fs) (fb := fb) (fd := upd fd d 2) (fv := fv) (fe := fe) (kp := kp) (kv := kv) (cc := cc) (cs := cs) (ss := ss) (sv := sv) (so := so) (yen := nI sc) (ycl := nI cl) (yw := nI h) (ym := 0) (ya := ya) (ys := ys) (yk := yk) (yv := yv) (yc := yc) (yt := yt) (rk := rk) (rv := rv) (kY := kY) (nY := nY) (en := en) (ln := ln) (pk := pk) (pv := pv) (po := po) (cy := cy) (cb := cb) (gt := gt) (ph := upd ph h 2) (ge := ge) (gk := gk) (gv := gv) (bp := bp) (ok := ok) (ov := ov) (ob := ob) d3 h3 hbd P V
  refine ⟨(dl, lr, lc, (nI st), (nI d), (nI cl), (nI sc), 1, xa, xs, (fb d), xg, 0, kX, vX, df, pr, sp, pl', th, fc, fs, fb, (upd fd d 2), fv, fe, kp, kv, cc, cs, ss, sv, so), ((nI sc), (nI cl), (nI h), (fb d), (nI st), 0, ya, ys, yk, yv, yc, yt, rk, rv, kY, nY, en, ln, pr, sp, pk', pv', th, ss, po, so, cy, cb, cs, gt, (upd ph h 2), ge, gk, gv, bp', ok, ov, ob), _, ?_, bl_mkG (s := s) C (by omega) hcl hst (by omega) So Co P' V' ?_ hg rfl, fun post hp => ?_, fun post hp => ?_⟩
  · omega
  · exact bl_St_cg (Nat.le_refl _) (Nat.le_refl _) d h _ s (fun i hi => by simp only [bl_x, upd, vp_updL, if_neg (show ¬ i = d by omega)]) (fun i hi => by simp only [bl_y, upd, if_neg (show ¬ i = h by omega), hbp i (by omega)]) S
  · exact nm_r (nI_pred d) ⟨i3, nm_r (e' := nI (48 * r + t)) (by rw [cd, hfc]) ⟨i3, i3, nm_r (e' := upd fd d 2) (by rw [cd, hfd]; rfl) ⟨i240, nm_r (e' := 3) (by rw [cp, hk]) (br_f (by decide) (br_f (by decide) (br_f (by decide) (br_t rfl (⟨i240, ⟨i3, br_f (by rw [cd, pk_us]; decide) (hX _ hp)⟩⟩)))))⟩⟩⟩
  · exact nm_r (nI_pred h) ⟨j3, nm_r (e' := nI (bl_yb r + t)) (by rw [ch, hgt]) ⟨j240, nm_r (e' := 3) (by rw [cq, kq, hk]) ⟨j240, nm_r (e' := vX (48 * r + t)) (by rw [cq, nq]) ⟨j3, nm_r (e' := 1) (by rw [ch, hph]) ⟨j3, j3, nm_r (e' := upd ph h 2) (by rw [ch, hph]; rfl) (br_f (by decide) (br_t (by decide) (br_f (by decide) (br_t rfl (br_t rfl (br_t rfl (br_t rfl (br_t rfl (br_t rfl (br_f (by decide) (nm_r (nI_pred h) (hY _ ⟨j3, nm_r (e' := fb d) (by rw [ch, hob]) (br_f (by decide) (br_f (by decide) (br_t (by decide) (br_f (by decide) (br_f (by decide) (br_f (by decide) hp))))))⟩))))))))))))⟩⟩⟩⟩⟩
theorem bl_G_close6 (C : bl_Cf L dl kX vX df pr sp kY nY en ln) (hcl : cl ≤ st) (hst : st ≤ 300) (So : bl_So sp ss so po sc) (Co : bl_Co kX vX L cc cs cy cb sc cl) (P : bl_Po cl pl pk pv) (V : bl_Vo cl sc sv pk pv) (hd : d + 1 ≤ st) (hw : 3001 * sc + (6 + s) ≤ 3010 * st) (S : bl_St kX vX L sc cl (bl_x fc fs fb fd fv fe kp kv) (bl_y gt ph ge gk gv bp ok ov ob) d h (fb d) s) (hg : bl_vg cl xg yk yv) (hr : r < 5) (ht : t < L r) (hfc : fc d = nI (48 * r + t)) (hgt : gt h = nI (bl_yb r + t)) (hge : fs d = ge h) (hfs : bl_sc sc (fs d)) (hob : fb d = ob h) (hk : kX (48 * r + t) = 6) (hfd : fd d = 1) (hph : ph h = 1) (hbd : bl_bd cl (kp d) (kv d) (bp h) (ok h) (ov h)) : ∃ u' v' q, q < 3010 * (300 - st) + (6 + s) ∧ bl_RR L q u' v' ∧ (∀ post : SX → Prop, post u' → wpX_resumeFrame post (dl, lr, lc, (nI st), (nI (d + 1)), (nI cl), (nI sc), 1, xa, xs, xb, xg, 0, kX, vX, df, pr, sp, pl, th, fc, fs, fb, fd, fv, fe, kp, kv, cc, cs, ss, sv, so)) ∧ (∀ post : SY → Prop, post v' → wpY_give post ((nI sc), (nI cl), (nI (h + 1)), xb, (nI st), 0, ya, ys, yk, yv, yc, yt, rk, rv, kY, nY, en, ln, pr, sp, pk, pv, th, ss, po, so, cy, cb, cs, gt, ph, ge, gk, gv, bp, ok, ov, ob)) := by
  have K := C.1
  have p240 := bl_pX K hr ht
  have q240 := bl_pY K hr ht
  have kq := (bl_kY K hr ht).1
  have nq := (bl_kY K hr ht).2
  have tk := K.2.2 _ p240
  have R := C.2.1 r hr (by omega)
  have l48 := K.1 r hr
  have i240 : vp_in (nI (48 * r + t)) 240 := vp_in_nI p240 (by decide)
  have j240 : vp_in (nI (bl_yb r + t)) 240 := vp_in_nI q240 (by decide)
  have cp : (nI (48 * r + t)).toNatClampNeg = 48 * r + t := nI_clamp (by omega)
  have cq : (nI (bl_yb r + t)).toNatClampNeg = bl_yb r + t := nI_clamp (by omega)
  have hh := bl_St_le _ _ _ _ S
  have d3 : d < 300 := by omega
  have h3 : h < 320 := by omega
  have cd : (nI d).toNatClampNeg = d := nI_clamp (by omega)
  have ch : (nI h).toNatClampNeg = h := nI_clamp (by omega)
  have i3 : vp_in (nI d) 300 := vp_in_nI d3 (by decide)
  have j3 : vp_in (nI h) 320 := vp_in_nI h3 (by decide)
  have cl3 : cl < 1000 := by omega
  obtain ⟨pl', pk', pv', bp', P', V', hbp, hX, hY⟩ := bl_close (dl := dl) (lr := lr) (lc := lc) (xst := nI st) (xcl := nI cl) (xsc := nI sc) (xm := 1) (xa := xa) (xs := xs) (xb := xb) (xg := xg) (xe := 0) (kX := kX) (vX := vX) (df := df) (pr := pr) (sp := sp) (pl := pl) (th := th) (fc := fc) (fs := fs) (fb := fb) (fd := upd fd d 2) (fv := fv) (fe := fe) (kp := kp) (kv := kv) (cc := cc) (cs := cs) (ss := ss) (sv := sv) (so := so) (yen := nI sc) (ycl := nI cl) (yw := nI h) (ym := 0) (ya := ya) (ys := ys) (yk := yk) (yv := yv) (yc := yc) (yt := yt) (rk := rk) (rv := rv) (kY := kY) (nY := nY) (en := en) (ln := ln) (pk := pk) (pv := pv) (po := po) (cy := cy) (cb := cb) (gt := gt) (ph := upd ph h 2) (ge := ge) (gk := gk) (gv := gv) (bp := bp) (ok := ok) (ov := ov) (ob := ob) d3 h3 hbd P V
  refine ⟨(dl, lr, lc, (nI st), (nI d), (nI cl), (nI sc), 1, xa, xs, (fb d), xg, 0, kX, vX, df, pr, sp, pl', th, fc, fs, fb, (upd fd d 2), fv, fe, kp, kv, cc, cs, ss, sv, so), ((nI sc), (nI cl), (nI h), (fb d), (nI st), 0, ya, ys, yk, yv, yc, yt, rk, rv, kY, nY, en, ln, pr, sp, pk', pv', th, ss, po, so, cy, cb, cs, gt, (upd ph h 2), ge, gk, gv, bp', ok, ov, ob), _, ?_, bl_mkG (s := s) C (by omega) hcl hst (by omega) So Co P' V' ?_ hg rfl, fun post hp => ?_, fun post hp => ?_⟩
  · omega
  · exact bl_St_cg (Nat.le_refl _) (Nat.le_refl _) d h _ s (fun i hi => by simp only [bl_x, upd, vp_updL, if_neg (show ¬ i = d by omega)]) (fun i hi => by simp only [bl_y, upd, if_neg (show ¬ i = h by omega), hbp i (by omega)]) S
  · exact nm_r (nI_pred d) ⟨i3, nm_r (e' := nI (48 * r + t)) (by rw [cd, hfc]) ⟨i3, i3, nm_r (e' := upd fd d 2) (by rw [cd, hfd]; rfl) ⟨i240, nm_r (e' := 6) (by rw [cp, hk]) (br_f (by decide) (br_f (by decide) (br_f (by decide) (br_f (by decide) (br_f (by decide) (br_f (by decide) (br_t rfl (⟨i240, ⟨i3, br_t (by rw [cd, pk_us]) (hX _ hp)⟩⟩))))))))⟩⟩⟩
  · exact nm_r (nI_pred h) ⟨j3, nm_r (e' := nI (bl_yb r + t)) (by rw [ch, hgt]) ⟨j240, nm_r (e' := 6) (by rw [cq, kq, hk]) ⟨j240, nm_r (e' := vX (48 * r + t)) (by rw [cq, nq]) ⟨j3, nm_r (e' := 1) (by rw [ch, hph]) ⟨j3, j3, nm_r (e' := upd ph h 2) (by rw [ch, hph]; rfl) (br_f (by decide) (br_t (by decide) (br_f (by decide) (br_t rfl (br_t rfl (br_t rfl (br_t rfl (br_t rfl (br_t rfl (br_f (by decide) (nm_r (nI_pred h) (hY _ ⟨j3, nm_r (e' := fb d) (by rw [ch, hob]) (br_f (by decide) (br_f (by decide) (br_t (by decide) (br_f (by decide) (br_f (by decide) (br_f (by decide) hp))))))⟩))))))))))))⟩⟩⟩⟩⟩
theorem bl_G_close5 (C : bl_Cf L dl kX vX df pr sp kY nY en ln) (hcl : cl ≤ st) (hst : st ≤ 300) (So : bl_So sp ss so po sc) (Co : bl_Co kX vX L cc cs cy cb sc cl) (P : bl_Po cl pl pk pv) (V : bl_Vo cl sc sv pk pv) (hd : d + 1 ≤ st) (hw : 3001 * sc + (4 + s) ≤ 3010 * st) (S : bl_St kX vX L sc cl (bl_x fc fs fb fd fv fe kp kv) (bl_y gt ph ge gk gv bp ok ov ob) d h (fb d) s) (hg : bl_vg cl xg yk yv) (hr : r < 5) (ht : t < L r) (hfc : fc d = nI (48 * r + t)) (hgt : gt h = nI (bl_yb r + t)) (hge : fs d = ge h) (hfs : bl_sc sc (fs d)) (hob : fb d = ob h) (hk : kX (48 * r + t) = 5) (hfd : fd d = 2) (hph : ph h = 2) (hbd : bl_bd cl (kp d) (kv d) (bp h) (ok h) (ov h)) : ∃ u' v' q, q < 3010 * (300 - st) + (4 + s) ∧ bl_RR L q u' v' ∧ (∀ post : SX → Prop, post u' → wpX_resumeFrame post (dl, lr, lc, (nI st), (nI (d + 1)), (nI cl), (nI sc), 1, xa, xs, xb, xg, 0, kX, vX, df, pr, sp, pl, th, fc, fs, fb, fd, fv, fe, kp, kv, cc, cs, ss, sv, so)) ∧ (∀ post : SY → Prop, post v' → wpY_give post ((nI sc), (nI cl), (nI (h + 1)), xb, (nI st), 0, ya, ys, yk, yv, yc, yt, rk, rv, kY, nY, en, ln, pr, sp, pk, pv, th, ss, po, so, cy, cb, cs, gt, ph, ge, gk, gv, bp, ok, ov, ob)) := by
  have K := C.1
  have p240 := bl_pX K hr ht
  have q240 := bl_pY K hr ht
  have kq := (bl_kY K hr ht).1
  have nq := (bl_kY K hr ht).2
  have tk := K.2.2 _ p240
  have R := C.2.1 r hr (by omega)
  have l48 := K.1 r hr
  have i240 : vp_in (nI (48 * r + t)) 240 := vp_in_nI p240 (by decide)
  have j240 : vp_in (nI (bl_yb r + t)) 240 := vp_in_nI q240 (by decide)
  have cp : (nI (48 * r + t)).toNatClampNeg = 48 * r + t := nI_clamp (by omega)
  have cq : (nI (bl_yb r + t)).toNatClampNeg = bl_yb r + t := nI_clamp (by omega)
  have hh := bl_St_le _ _ _ _ S
  have d3 : d < 300 := by omega
  have h3 : h < 320 := by omega
  have cd : (nI d).toNatClampNeg = d := nI_clamp (by omega)
  have ch : (nI h).toNatClampNeg = h := nI_clamp (by omega)
  have i3 : vp_in (nI d) 300 := vp_in_nI d3 (by decide)
  have j3 : vp_in (nI h) 320 := vp_in_nI h3 (by decide)
  have cl3 : cl < 1000 := by omega
  obtain ⟨pl', pk', pv', bp', P', V', hbp, hX, hY⟩ := bl_close (dl := dl) (lr := lr) (lc := lc) (xst := nI st) (xcl := nI cl) (xsc := nI sc) (xm := 1) (xa := xa) (xs := xs) (xb := xb) (xg := xg) (xe := 0) (kX := kX) (vX := vX) (df := df) (pr := pr) (sp := sp) (pl := pl) (th := th) (fc := fc) (fs := fs) (fb := fb) (fd := upd fd d 3) (fv := fv) (fe := fe) (kp := kp) (kv := kv) (cc := cc) (cs := cs) (ss := ss) (sv := sv) (so := so) (yen := nI sc) (ycl := nI cl) (yw := nI h) (ym := 0) (ya := ya) (ys := ys) (yk := yk) (yv := yv) (yc := yc) (yt := yt) (rk := rk) (rv := rv) (kY := kY) (nY := nY) (en := en) (ln := ln) (pk := pk) (pv := pv) (po := po) (cy := cy) (cb := cb) (gt := gt) (ph := upd ph h 3) (ge := ge) (gk := gk) (gv := gv) (bp := bp) (ok := ok) (ov := ov) (ob := ob) d3 h3 hbd P V
  refine ⟨(dl, lr, lc, (nI st), (nI d), (nI cl), (nI sc), 1, xa, xs, (fb d), xg, 0, kX, vX, df, pr, sp, pl', th, fc, fs, fb, (upd fd d 3), fv, fe, kp, kv, cc, cs, ss, sv, so), ((nI sc), (nI cl), (nI h), (fb d), (nI st), 0, ya, ys, yk, yv, yc, yt, rk, rv, kY, nY, en, ln, pr, sp, pk', pv', th, ss, po, so, cy, cb, cs, gt, (upd ph h 3), ge, gk, gv, bp', ok, ov, ob), _, ?_, bl_mkG (s := s) C (by omega) hcl hst (by omega) So Co P' V' ?_ hg rfl, fun post hp => ?_, fun post hp => ?_⟩
  · omega
  · exact bl_St_cg (Nat.le_refl _) (Nat.le_refl _) d h _ s (fun i hi => by simp only [bl_x, upd, vp_updL, if_neg (show ¬ i = d by omega)]) (fun i hi => by simp only [bl_y, upd, if_neg (show ¬ i = h by omega), hbp i (by omega)]) S
  · exact nm_r (nI_pred d) ⟨i3, nm_r (e' := nI (48 * r + t)) (by rw [cd, hfc]) ⟨i3, i3, nm_r (e' := upd fd d 3) (by rw [cd, hfd]; rfl) ⟨i240, nm_r (e' := 5) (by rw [cp, hk]) (br_f (by decide) (br_f (by decide) (br_f (by decide) (br_f (by decide) (br_f (by decide) (br_t rfl (⟨i3, br_f (by rw [cd, pk_us]; decide) ⟨i3, br_t (by rw [cd, pk_us]) (hX _ hp)⟩⟩)))))))⟩⟩⟩
  · exact nm_r (nI_pred h) ⟨j3, nm_r (e' := nI (bl_yb r + t)) (by rw [ch, hgt]) ⟨j240, nm_r (e' := 5) (by rw [cq, kq, hk]) ⟨j240, nm_r (e' := vX (48 * r + t)) (by rw [cq, nq]) ⟨j3, nm_r (e' := 2) (by rw [ch, hph]) ⟨j3, j3, nm_r (e' := upd ph h 3) (by rw [ch, hph]; rfl) (br_t rfl (br_f (by decide) (br_t rfl (br_t rfl (br_t rfl (br_t rfl (br_t rfl (br_f (by decide) (nm_r (nI_pred h) (hY _ ⟨j3, nm_r (e' := fb d) (by rw [ch, hob]) (br_f (by decide) (br_f (by decide) (br_t (by decide) (br_f (by decide) (br_f (by decide) (br_f (by decide) hp))))))⟩))))))))))⟩⟩⟩⟩⟩
end
end
section
/-! turns: a value is given to the frame on top (2) -/
section
variable {dl lc xst xd xcl xsc xm xa xs xb xe yen ycl yw ym ya ys yk yv yc yt rk rv : Int32}
variable {lr xg : Int64}
variable {kX vX df pr sp th fc fs fb fd fe kp cc cs ss so kY nY en ln pk pv po cy cb gt ph ge gk gv bp ok ov ob : Nat → Int32}
variable {pl fv kv sv : Nat → Int64}
variable {L : Nat → Nat} {q d h sc cl st s r t m m2 p j b w e : Nat}
theorem bl_St_fc {kX vX : Nat → Int32} {L : Nat → Nat} {sc cl : Nat} {x : Nat → bl_XF} {y : Nat → bl_YF} (h48 : ∀ r, r < 5 → L r ≤ 48) : ∀ (d h : Nat) (b : Int32) (s : Nat), bl_St kX vX L sc cl x y d h b s → ∀ i, i < d → ∃ p, p < 240 ∧ (x i).1 = nI p := by
  intro d
  induction d with
  | zero => intro h b s _ i hi; omega
  | succ d ih =>
    intro h b s H i hi
    rcases H with ⟨s', e, hi', H⟩ | ⟨h', s', w, e1, e2, hl, H⟩
    · by_cases c : i = d
      · subst c
        generalize x i = f at hi'
        obtain ⟨fc, fs, fb, fd, fv, fe, kp, kv⟩ := f
        obtain ⟨r, t, a1, a2, a3, _⟩ := hi'
        have := h48 r a1
        exact ⟨48 * r + t, by omega, a3⟩
      · exact ih _ _ _ H i (by omega)
    · by_cases c : i = d
      · subst c
        generalize x i = f at hl
        generalize y h' = g at hl
        obtain ⟨fc, fs, fb, fd, fv, fe, kp, kv⟩ := f
        obtain ⟨gt, ph, ge, gk, gv, bp, ok, ov, ob⟩ := g
        obtain ⟨r, t, e, a1, a2, a3, _⟩ := hl
        have := h48 r a1
        exact ⟨48 * r + t, by omega, a3⟩
      · exact ih _ _ _ H i (by omega)
theorem bl_St_gt {kX vX : Nat → Int32} {L : Nat → Nat} {sc cl : Nat} {x : Nat → bl_XF} {y : Nat → bl_YF} (h48 : ∀ r, r < 5 → L r ≤ 48) : ∀ (d h : Nat) (b : Int32) (s : Nat), bl_St kX vX L sc cl x y d h b s → ∀ i, i < h → ∃ p, p < 240 ∧ (y i).1 = nI p := by
  intro d
  induction d with
  | zero => intro h b s H i hi; have := H.1; omega
  | succ d ih =>
    intro h b s H i hi
    rcases H with ⟨s', e, hi', H⟩ | ⟨h', s', w, e1, e2, hl, H⟩
    · exact ih _ _ _ H i hi
    · by_cases c : i = h'
      · subst c
        generalize x d = f at hl
        generalize y i = g at hl
        obtain ⟨fc, fs, fb, fd, fv, fe, kp, kv⟩ := f
        obtain ⟨gt, ph, ge, gk, gv, bp, ok, ov, ob⟩ := g
        obtain ⟨r, t, e, a1, a2, a3, a4, _⟩ := hl
        have := h48 r a1
        exact ⟨bl_yb r + t, bl_yb_lt a1 (by omega), a4⟩
      · exact ih _ _ _ H i (by omega)
theorem bl_G_seq (C : bl_Cf L dl kX vX df pr sp kY nY en ln) (hcl : cl ≤ st) (hst : st ≤ 300) (So : bl_So sp ss so po sc) (Co : bl_Co kX vX L cc cs cy cb sc cl) (P : bl_Po cl pl pk pv) (V : bl_Vo cl sc sv pk pv) (hd : d + 1 ≤ st) (hw : 3001 * sc + (3009 + s) ≤ 3010 * st) (S : bl_St kX vX L sc cl (bl_x fc fs fb fd fv fe kp kv) (bl_y gt ph ge gk gv bp ok ov ob) d h (fb d) s) (hg : bl_vg cl xg yk yv) (hr : r < 5) (ht : t < L r) (hfc : fc d = nI (48 * r + t)) (hgt : gt h = nI (bl_yb r + t)) (hge : fs d = ge h) (hfs : bl_sc sc (fs d)) (hob : fb d = ob h) (hk : kX (48 * r + t) = 7) (hfd : fd d = 0) (hph : ph h = 0) (hkp : kp d = -1) (hbp : bp h = -1) (hxb : xb = fb d) : ∃ u' v' q, q < 3010 * (300 - st) + (3009 + s) ∧ bl_RR L q u' v' ∧ (∀ post : SX → Prop, post u' → wpX_resumeFrame post (dl, lr, lc, (nI st), (nI (d + 1)), (nI cl), (nI sc), 1, xa, xs, xb, xg, 0, kX, vX, df, pr, sp, pl, th, fc, fs, fb, fd, fv, fe, kp, kv, cc, cs, ss, sv, so)) ∧ (∀ post : SY → Prop, post v' → wpY_give post ((nI sc), (nI cl), (nI (h + 1)), xb, (nI st), 0, ya, ys, yk, yv, yc, yt, rk, rv, kY, nY, en, ln, pr, sp, pk, pv, th, ss, po, so, cy, cb, cs, gt, ph, ge, gk, gv, bp, ok, ov, ob)) := by
  have K := C.1
  have p240 := bl_pX K hr ht
  have q240 := bl_pY K hr ht
  have kq := (bl_kY K hr ht).1
  have nq := (bl_kY K hr ht).2
  have tk := K.2.2 _ p240
  have R := C.2.1 r hr (by omega)
  have l48 := K.1 r hr
  have i240 : vp_in (nI (48 * r + t)) 240 := vp_in_nI p240 (by decide)
  have j240 : vp_in (nI (bl_yb r + t)) 240 := vp_in_nI q240 (by decide)
  have cp : (nI (48 * r + t)).toNatClampNeg = 48 * r + t := nI_clamp (by omega)
  have cq : (nI (bl_yb r + t)).toNatClampNeg = bl_yb r + t := nI_clamp (by omega)
  have hh := bl_St_le _ _ _ _ S
  have d3 : d < 300 := by omega
  have h3 : h < 320 := by omega
  have cd : (nI d).toNatClampNeg = d := nI_clamp (by omega)
  have ch : (nI h).toNatClampNeg = h := nI_clamp (by omega)
  have i3 : vp_in (nI d) 300 := vp_in_nI d3 (by decide)
  have j3 : vp_in (nI h) 320 := vp_in_nI h3 (by decide)
  have cl3 : cl < 1000 := by omega
  subst hxb
  have ka : 1 < bl_ar (kX (48 * r + t)) := by rw [hk]; decide
  have t1 := bl_p0 R ht (by omega)
  have y1 := bl_pY K hr t1
  obtain ⟨m, hm, E1, he⟩ := bl_p1 R ht ka
  refine ⟨(dl, lr, lc, (nI st), (nI (d + 1)), (nI cl), (nI sc), 0, (nI (48 * r + m)), (fs d), (fb d), xg, 0, kX, vX, df, pr, sp, pl, th, fc, fs, fb, (upd fd d 1), fv, fe, kp, kv, cc, cs, ss, sv, so), ((nI sc), (nI cl), (nI h), (fb d), (nI st), 1, (nI (bl_yb r + m)), (fs d), yk, yv, yc, yt, rk, rv, kY, nY, en, ln, pr, sp, pk, pv, th, ss, po, so, cy, cb, cs, gt, (upd ph h 1), ge, gk, gv, bp, ok, ov, ob), _, ?_, bl_mkE (s := 6 + s) C (by omega) hcl hst (by omega) So Co P V ?_ hfs hr hm rfl, fun post hp => ?_, fun post hp => ?_⟩
  · omega
  · exact Or.inl ⟨s, rfl, ⟨r, t, hr, ht, hfc, Or.inl hk, pk_us, hkp, rfl⟩, bl_St_cg (Nat.le_refl _) (Nat.le_refl _) d h _ s (fun i hi => by simp only [bl_x, upd, vp_updL, if_neg (show ¬ i = d by omega)]) (fun i hi => by simp only [bl_y, upd, if_neg (show ¬ i = h by omega)]) S⟩
  · exact nm_r (nI_pred d) ⟨i3, nm_r (e' := nI (48 * r + t)) (by rw [cd, hfc]) ⟨i3, i3, nm_r (e' := upd fd d 1) (by rw [cd, hfd]; rfl) ⟨i240, nm_r (e' := 7) (by rw [cp, hk]) (br_f (by decide) (br_f (by decide) (br_f (by decide) (br_f (by decide) (br_f (by decide) (br_f (by decide) (br_f (by decide) (br_t rfl (⟨i3, br_t (by rw [cd, pk_us]) (bl_x_sp2 K.2.2 hr (by omega) E1 d3 p240 hfc hp)⟩)))))))))⟩⟩⟩
  · refine nm_r (nI_pred h) ⟨j3, nm_r (e' := nI (bl_yb r + t)) (by rw [ch, hgt]) ⟨j240, nm_r (e' := 7) (by rw [cq, kq, hk]) ⟨j240, nm_r (e' := vX (48 * r + t)) (by rw [cq, nq]) ⟨j3, nm_r (e' := 0) (by rw [ch, hph]) ⟨j3, j3, nm_r (e' := upd ph h 1) (by rw [ch, hph]; rfl) (br_f (by decide) (br_t (by decide) (br_t rfl (br_f (by decide) (br_t rfl (br_f (by decide) (br_f (by decide) (br_t rfl (nm_r (nI_pred h) (bl_y_op1 y1 he ⟨j3, ?_⟩))))))))))⟩⟩⟩⟩⟩
    rw [ch, ← hge]; exact hp
theorem bl_G_if (C : bl_Cf L dl kX vX df pr sp kY nY en ln) (hcl : cl ≤ st) (hst : st ≤ 300) (So : bl_So sp ss so po sc) (Co : bl_Co kX vX L cc cs cy cb sc cl) (P : bl_Po cl pl pk pv) (V : bl_Vo cl sc sv pk pv) (hd : d + 1 ≤ st) (hw : 3001 * sc + (3009 + s) ≤ 3010 * st) (S : bl_St kX vX L sc cl (bl_x fc fs fb fd fv fe kp kv) (bl_y gt ph ge gk gv bp ok ov ob) d h (fb d) s) (hg : bl_vg cl xg yk yv) (hr : r < 5) (ht : t < L r) (hfc : fc d = nI (48 * r + t)) (hgt : gt h = nI (bl_yb r + t)) (hge : fs d = ge h) (hfs : bl_sc sc (fs d)) (hob : fb d = ob h) (hk : kX (48 * r + t) = 8) (hfd : fd d = 0) (hph : ph h = 0) (hkp : kp d = -1) (hbp : bp h = -1) (hxb : xb = fb d) : ∃ u' v' q, q < 3010 * (300 - st) + (3009 + s) ∧ bl_RR L q u' v' ∧ (∀ post : SX → Prop, post u' → wpX_resumeFrame post (dl, lr, lc, (nI st), (nI (d + 1)), (nI cl), (nI sc), 1, xa, xs, xb, xg, 0, kX, vX, df, pr, sp, pl, th, fc, fs, fb, fd, fv, fe, kp, kv, cc, cs, ss, sv, so)) ∧ (∀ post : SY → Prop, post v' → wpY_give post ((nI sc), (nI cl), (nI (h + 1)), xb, (nI st), 0, ya, ys, yk, yv, yc, yt, rk, rv, kY, nY, en, ln, pr, sp, pk, pv, th, ss, po, so, cy, cb, cs, gt, ph, ge, gk, gv, bp, ok, ov, ob)) := by
  have K := C.1
  have p240 := bl_pX K hr ht
  have q240 := bl_pY K hr ht
  have kq := (bl_kY K hr ht).1
  have nq := (bl_kY K hr ht).2
  have tk := K.2.2 _ p240
  have R := C.2.1 r hr (by omega)
  have l48 := K.1 r hr
  have i240 : vp_in (nI (48 * r + t)) 240 := vp_in_nI p240 (by decide)
  have j240 : vp_in (nI (bl_yb r + t)) 240 := vp_in_nI q240 (by decide)
  have cp : (nI (48 * r + t)).toNatClampNeg = 48 * r + t := nI_clamp (by omega)
  have cq : (nI (bl_yb r + t)).toNatClampNeg = bl_yb r + t := nI_clamp (by omega)
  have hh := bl_St_le _ _ _ _ S
  have d3 : d < 300 := by omega
  have h3 : h < 320 := by omega
  have cd : (nI d).toNatClampNeg = d := nI_clamp (by omega)
  have ch : (nI h).toNatClampNeg = h := nI_clamp (by omega)
  have i3 : vp_in (nI d) 300 := vp_in_nI d3 (by decide)
  have j3 : vp_in (nI h) 320 := vp_in_nI h3 (by decide)
  have cl3 : cl < 1000 := by omega
  subst hxb
  have ka : 2 < bl_ar (kX (48 * r + t)) := by rw [hk]; decide
  have t1 := bl_p0 R ht (by omega)
  have y1 := bl_pY K hr t1
  obtain ⟨m, m2, hm, hm2, E1, he, E2, he2⟩ := bl_p2 R ht ka
  have y2 := bl_pY K hr hm
  by_cases z : xg = 0
  · have zz := (bl_vg_0 cl3 hg).mp z
    refine ⟨(dl, lr, lc, (nI st), (nI (d + 1)), (nI cl), (nI sc), 0, (nI (48 * r + m2)), (fs d), (fb d), xg, 0, kX, vX, df, pr, sp, pl, th, fc, fs, fb, (upd fd d 1), fv, fe, kp, kv, cc, cs, ss, sv, so), ((nI sc), (nI cl), (nI h), (fb d), (nI st), 1, (nI (bl_yb r + m2)), (fs d), yk, yv, yc, yt, rk, rv, kY, nY, en, ln, pr, sp, pk, pv, th, ss, po, so, cy, cb, cs, gt, (upd ph h 1), ge, gk, gv, bp, ok, ov, ob), _, ?_, bl_mkE (s := 6 + s) C (by omega) hcl hst (by omega) So Co P V ?_ hfs hr hm2 rfl, fun post hp => ?_, fun post hp => ?_⟩
    · omega
    · exact Or.inl ⟨s, rfl, ⟨r, t, hr, ht, hfc, Or.inr (Or.inl hk), pk_us, hkp, rfl⟩, bl_St_cg (Nat.le_refl _) (Nat.le_refl _) d h _ s (fun i hi => by simp only [bl_x, upd, vp_updL, if_neg (show ¬ i = d by omega)]) (fun i hi => by simp only [bl_y, upd, if_neg (show ¬ i = h by omega)]) S⟩
    · exact nm_r (nI_pred d) ⟨i3, nm_r (e' := nI (48 * r + t)) (by rw [cd, hfc]) ⟨i3, i3, nm_r (e' := upd fd d 1) (by rw [cd, hfd]; rfl) ⟨i240, nm_r (e' := 8) (by rw [cp, hk]) (br_f (by decide) (br_f (by decide) (br_f (by decide) (br_f (by decide) (br_f (by decide) (br_f (by decide) (br_f (by decide) (br_f (by decide) (br_t rfl (⟨i3, br_t (by rw [cd, pk_us]) (br_t z (bl_x_sp3 K.2.2 hr (by omega) E1 (by omega) E2 d3 p240 hfc hp))⟩))))))))))⟩⟩⟩
    · refine nm_r (nI_pred h) ⟨j3, nm_r (e' := nI (bl_yb r + t)) (by rw [ch, hgt]) ⟨j240, nm_r (e' := 8) (by rw [cq, kq, hk]) ⟨j240, nm_r (e' := vX (48 * r + t)) (by rw [cq, nq]) ⟨j3, nm_r (e' := 0) (by rw [ch, hph]) ⟨j3, j3, nm_r (e' := upd ph h 1) (by rw [ch, hph]; rfl) (br_f (by decide) (br_t (by decide) (br_t rfl (br_f (by decide) (br_t rfl (br_f (by decide) (br_f (by decide) (br_f (by decide) (br_f (by decide) (br_t rfl (nm_r (nI_pred h) (br_t zz.1 (br_t zz.2 (bl_y_op2 y1 he y2 he2 ⟨j3, ?_⟩))))))))))))))⟩⟩⟩⟩⟩
      rw [ch, ← hge]; exact hp
  · have zz : ¬ (yk = 0 ∧ yv = 0) := fun y => z ((bl_vg_0 cl3 hg).mpr y)
    refine ⟨(dl, lr, lc, (nI st), (nI (d + 1)), (nI cl), (nI sc), 0, (nI (48 * r + m)), (fs d), (fb d), xg, 0, kX, vX, df, pr, sp, pl, th, fc, fs, fb, (upd fd d 1), fv, fe, kp, kv, cc, cs, ss, sv, so), ((nI sc), (nI cl), (nI h), (fb d), (nI st), 1, (nI (bl_yb r + m)), (fs d), yk, yv, yc, yt, rk, rv, kY, nY, en, ln, pr, sp, pk, pv, th, ss, po, so, cy, cb, cs, gt, (upd ph h 1), ge, gk, gv, bp, ok, ov, ob), _, ?_, bl_mkE (s := 6 + s) C (by omega) hcl hst (by omega) So Co P V ?_ hfs hr hm rfl, fun post hp => ?_, fun post hp => ?_⟩
    · omega
    · exact Or.inl ⟨s, rfl, ⟨r, t, hr, ht, hfc, Or.inr (Or.inl hk), pk_us, hkp, rfl⟩, bl_St_cg (Nat.le_refl _) (Nat.le_refl _) d h _ s (fun i hi => by simp only [bl_x, upd, vp_updL, if_neg (show ¬ i = d by omega)]) (fun i hi => by simp only [bl_y, upd, if_neg (show ¬ i = h by omega)]) S⟩
    · exact nm_r (nI_pred d) ⟨i3, nm_r (e' := nI (48 * r + t)) (by rw [cd, hfc]) ⟨i3, i3, nm_r (e' := upd fd d 1) (by rw [cd, hfd]; rfl) ⟨i240, nm_r (e' := 8) (by rw [cp, hk]) (br_f (by decide) (br_f (by decide) (br_f (by decide) (br_f (by decide) (br_f (by decide) (br_f (by decide) (br_f (by decide) (br_f (by decide) (br_t rfl (⟨i3, br_t (by rw [cd, pk_us]) (br_f z (bl_x_sp2 K.2.2 hr (by omega) E1 d3 p240 hfc hp))⟩))))))))))⟩⟩⟩
    · refine nm_r (nI_pred h) ⟨j3, nm_r (e' := nI (bl_yb r + t)) (by rw [ch, hgt]) ⟨j240, nm_r (e' := 8) (by rw [cq, kq, hk]) ⟨j240, nm_r (e' := vX (48 * r + t)) (by rw [cq, nq]) ⟨j3, nm_r (e' := 0) (by rw [ch, hph]) ⟨j3, j3, nm_r (e' := upd ph h 1) (by rw [ch, hph]; rfl) (br_f (by decide) (br_t (by decide) (br_t rfl (br_f (by decide) (br_t rfl (br_f (by decide) (br_f (by decide) (br_f (by decide) (br_f (by decide) (br_t rfl (nm_r (nI_pred h) ?_)))))))))))⟩⟩⟩⟩⟩
      have g : ∀ post' : SY → Prop, post' ((nI sc), (nI cl), (nI h), (fb d), (nI st), 1, (nI (bl_yb r + m)), (fs d), yk, yv, yc, yt, rk, rv, kY, nY, en, ln, pr, sp, pk, pv, th, ss, po, so, cy, cb, cs, gt, (upd ph h 1), ge, gk, gv, bp, ok, ov, ob) → wY_give_216 post' (nI h) (nI (bl_yb r + t)) (nI sc) (nI cl) (nI h) (fb d) (nI st) 0 ya ys yk yv yc yt rk rv kY nY en ln pr sp pk pv th ss po so cy cb cs gt (upd ph h 1) ge gk gv bp ok ov ob := by
        intro post' hp'
        refine bl_y_op1 y1 he ⟨j3, ?_⟩
        rw [ch, ← hge]; exact hp'
      exact br_c (fun a => br_f (fun c => zz ⟨a, c⟩) (g _ hp)) (fun _ => g _ hp)
theorem bl_G_keep5 (C : bl_Cf L dl kX vX df pr sp kY nY en ln) (hcl : cl ≤ st) (hst : st ≤ 300) (So : bl_So sp ss so po sc) (Co : bl_Co kX vX L cc cs cy cb sc cl) (P : bl_Po cl pl pk pv) (V : bl_Vo cl sc sv pk pv) (hd : d + 1 ≤ st) (hw : 3001 * sc + (3009 + s) ≤ 3010 * st) (S : bl_St kX vX L sc cl (bl_x fc fs fb fd fv fe kp kv) (bl_y gt ph ge gk gv bp ok ov ob) d h (fb d) s) (hg : bl_vg cl xg yk yv) (hr : r < 5) (ht : t < L r) (hfc : fc d = nI (48 * r + t)) (hgt : gt h = nI (bl_yb r + t)) (hge : fs d = ge h) (hfs : bl_sc sc (fs d)) (hob : fb d = ob h) (hk : kX (48 * r + t) = 5) (hfd : fd d = 0) (hph : ph h = 0) (hkp : kp d = -1) (hbp : bp h = -1) (hxb : xb = fb d) : ∃ u' v' q, q < 3010 * (300 - st) + (3009 + s) ∧ bl_RR L q u' v' ∧ (∀ post : SX → Prop, post u' → wpX_resumeFrame post (dl, lr, lc, (nI st), (nI (d + 1)), (nI cl), (nI sc), 1, xa, xs, xb, xg, 0, kX, vX, df, pr, sp, pl, th, fc, fs, fb, fd, fv, fe, kp, kv, cc, cs, ss, sv, so)) ∧ (∀ post : SY → Prop, post v' → wpY_give post ((nI sc), (nI cl), (nI (h + 1)), xb, (nI st), 0, ya, ys, yk, yv, yc, yt, rk, rv, kY, nY, en, ln, pr, sp, pk, pv, th, ss, po, so, cy, cb, cs, gt, ph, ge, gk, gv, bp, ok, ov, ob)) := by
  have K := C.1
  have p240 := bl_pX K hr ht
  have q240 := bl_pY K hr ht
  have kq := (bl_kY K hr ht).1
  have nq := (bl_kY K hr ht).2
  have tk := K.2.2 _ p240
  have R := C.2.1 r hr (by omega)
  have l48 := K.1 r hr
  have i240 : vp_in (nI (48 * r + t)) 240 := vp_in_nI p240 (by decide)
  have j240 : vp_in (nI (bl_yb r + t)) 240 := vp_in_nI q240 (by decide)
  have cp : (nI (48 * r + t)).toNatClampNeg = 48 * r + t := nI_clamp (by omega)
  have cq : (nI (bl_yb r + t)).toNatClampNeg = bl_yb r + t := nI_clamp (by omega)
  have hh := bl_St_le _ _ _ _ S
  have d3 : d < 300 := by omega
  have h3 : h < 320 := by omega
  have cd : (nI d).toNatClampNeg = d := nI_clamp (by omega)
  have ch : (nI h).toNatClampNeg = h := nI_clamp (by omega)
  have i3 : vp_in (nI d) 300 := vp_in_nI d3 (by decide)
  have j3 : vp_in (nI h) 320 := vp_in_nI h3 (by decide)
  have cl3 : cl < 1000 := by omega
  subst hxb
  have ka : 1 < bl_ar (kX (48 * r + t)) := by rw [hk]; decide
  have t1 := bl_p0 R ht (by omega)
  have y1 := bl_pY K hr t1
  obtain ⟨m, hm, E1, he⟩ := bl_p1 R ht ka
  refine ⟨(dl, lr, lc, (nI st), (nI (d + 1)), (nI cl), (nI sc), 0, (nI (48 * r + m)), (fs d), (fb d), xg, 0, kX, vX, df, pr, sp, pl, th, fc, fs, fb, (upd fd d 1), (vp_updL fv d xg), fe, kp, kv, cc, cs, ss, sv, so), ((nI sc), (nI cl), (nI (h + 1)), (fb d), (nI st), 1, (nI (bl_yb r + m)), (fs d), yk, yv, yc, yt, rk, rv, kY, nY, en, ln, pr, sp, pk, pv, th, ss, po, so, cy, cb, cs, gt, (upd ph h 1), ge, (upd gk h yk), (upd gv h yv), bp, ok, ov, ob), _, ?_, bl_mkE (s := 3007 + s) C (by omega) hcl hst (by omega) So Co P V ?_ hfs hr hm rfl, fun post hp => ?_, fun post hp => ?_⟩
  · omega
  · refine bl_St_mk (r := r) (t := t) (e := 1) hr ht hfc hgt hge hfs hob pk_us (by rw [hk]; decide) (by rw [hk]; rfl) (Or.inr (Or.inr (Or.inl ⟨rfl, pk_us, Or.inl hk, hkp, hbp, ?_⟩))) (bl_St_cg (Nat.le_refl _) (Nat.le_refl _) d h _ s (fun i hi => by simp only [bl_x, upd, vp_updL, if_neg (show ¬ i = d by omega)]) (fun i hi => by simp only [bl_y, upd, if_neg (show ¬ i = h by omega)]) S)
    rw [pk_uLs, pk_us, pk_us]; exact hg
  · exact nm_r (nI_pred d) ⟨i3, nm_r (e' := nI (48 * r + t)) (by rw [cd, hfc]) ⟨i3, i3, nm_r (e' := upd fd d 1) (by rw [cd, hfd]; rfl) ⟨i240, nm_r (e' := 5) (by rw [cp, hk]) (br_f (by decide) (br_f (by decide) (br_f (by decide) (br_f (by decide) (br_f (by decide) (br_t rfl (⟨i3, br_t (by rw [cd, pk_us]) ⟨i3, nm_r (e' := vp_updL fv d xg) (by rw [cd]) (bl_x_sp2 K.2.2 hr (by omega) E1 d3 p240 hfc hp)⟩⟩)))))))⟩⟩⟩
  · refine nm_r (nI_pred h) ⟨j3, nm_r (e' := nI (bl_yb r + t)) (by rw [ch, hgt]) ⟨j240, nm_r (e' := 5) (by rw [cq, kq, hk]) ⟨j240, nm_r (e' := vX (48 * r + t)) (by rw [cq, nq]) ⟨j3, nm_r (e' := 0) (by rw [ch, hph]) ⟨j3, j3, nm_r (e' := upd ph h 1) (by rw [ch, hph]; rfl) (br_t rfl (br_t rfl (br_f (by decide) (br_f (by decide) (⟨j3, nm_r (e' := upd gk h yk) (by rw [ch]) ⟨j3, nm_r (e' := upd gv h yv) (by rw [ch]) (bl_y_op1 y1 he ⟨j3, ?_⟩)⟩⟩)))))⟩⟩⟩⟩⟩
    rw [ch, ← hge]; exact hp
theorem bl_G_keep9 (C : bl_Cf L dl kX vX df pr sp kY nY en ln) (hcl : cl ≤ st) (hst : st ≤ 300) (So : bl_So sp ss so po sc) (Co : bl_Co kX vX L cc cs cy cb sc cl) (P : bl_Po cl pl pk pv) (V : bl_Vo cl sc sv pk pv) (hd : d + 1 ≤ st) (hw : 3001 * sc + (3009 + s) ≤ 3010 * st) (S : bl_St kX vX L sc cl (bl_x fc fs fb fd fv fe kp kv) (bl_y gt ph ge gk gv bp ok ov ob) d h (fb d) s) (hg : bl_vg cl xg yk yv) (hr : r < 5) (ht : t < L r) (hfc : fc d = nI (48 * r + t)) (hgt : gt h = nI (bl_yb r + t)) (hge : fs d = ge h) (hfs : bl_sc sc (fs d)) (hob : fb d = ob h) (hk : kX (48 * r + t) = 9) (hfd : fd d = 0) (hph : ph h = 0) (hkp : kp d = -1) (hbp : bp h = -1) (hxb : xb = fb d) : ∃ u' v' q, q < 3010 * (300 - st) + (3009 + s) ∧ bl_RR L q u' v' ∧ (∀ post : SX → Prop, post u' → wpX_resumeFrame post (dl, lr, lc, (nI st), (nI (d + 1)), (nI cl), (nI sc), 1, xa, xs, xb, xg, 0, kX, vX, df, pr, sp, pl, th, fc, fs, fb, fd, fv, fe, kp, kv, cc, cs, ss, sv, so)) ∧ (∀ post : SY → Prop, post v' → wpY_give post ((nI sc), (nI cl), (nI (h + 1)), xb, (nI st), 0, ya, ys, yk, yv, yc, yt, rk, rv, kY, nY, en, ln, pr, sp, pk, pv, th, ss, po, so, cy, cb, cs, gt, ph, ge, gk, gv, bp, ok, ov, ob)) := by
  have K := C.1
  have p240 := bl_pX K hr ht
  have q240 := bl_pY K hr ht
  have kq := (bl_kY K hr ht).1
  have nq := (bl_kY K hr ht).2
  have tk := K.2.2 _ p240
  have R := C.2.1 r hr (by omega)
  have l48 := K.1 r hr
  have i240 : vp_in (nI (48 * r + t)) 240 := vp_in_nI p240 (by decide)
  have j240 : vp_in (nI (bl_yb r + t)) 240 := vp_in_nI q240 (by decide)
  have cp : (nI (48 * r + t)).toNatClampNeg = 48 * r + t := nI_clamp (by omega)
  have cq : (nI (bl_yb r + t)).toNatClampNeg = bl_yb r + t := nI_clamp (by omega)
  have hh := bl_St_le _ _ _ _ S
  have d3 : d < 300 := by omega
  have h3 : h < 320 := by omega
  have cd : (nI d).toNatClampNeg = d := nI_clamp (by omega)
  have ch : (nI h).toNatClampNeg = h := nI_clamp (by omega)
  have i3 : vp_in (nI d) 300 := vp_in_nI d3 (by decide)
  have j3 : vp_in (nI h) 320 := vp_in_nI h3 (by decide)
  have cl3 : cl < 1000 := by omega
  subst hxb
  have ka : 1 < bl_ar (kX (48 * r + t)) := by rw [hk]; decide
  have t1 := bl_p0 R ht (by omega)
  have y1 := bl_pY K hr t1
  obtain ⟨m, hm, E1, he⟩ := bl_p1 R ht ka
  refine ⟨(dl, lr, lc, (nI st), (nI (d + 1)), (nI cl), (nI sc), 0, (nI (48 * r + m)), (fs d), (fb d), xg, 0, kX, vX, df, pr, sp, pl, th, fc, fs, fb, (upd fd d 1), (vp_updL fv d xg), fe, kp, kv, cc, cs, ss, sv, so), ((nI sc), (nI cl), (nI (h + 1)), (fb d), (nI st), 1, (nI (bl_yb r + m)), (fs d), yk, yv, yc, yt, rk, rv, kY, nY, en, ln, pr, sp, pk, pv, th, ss, po, so, cy, cb, cs, gt, (upd ph h 1), ge, (upd gk h yk), (upd gv h yv), bp, ok, ov, ob), _, ?_, bl_mkE (s := 6 + s) C (by omega) hcl hst (by omega) So Co P V ?_ hfs hr hm rfl, fun post hp => ?_, fun post hp => ?_⟩
  · omega
  · refine bl_St_mk (r := r) (t := t) (e := 1) hr ht hfc hgt hge hfs hob pk_us (by rw [hk]; decide) (by rw [hk]; rfl) (Or.inr (Or.inr (Or.inl ⟨rfl, pk_us, Or.inr (Or.inl hk), hkp, hbp, ?_⟩))) (bl_St_cg (Nat.le_refl _) (Nat.le_refl _) d h _ s (fun i hi => by simp only [bl_x, upd, vp_updL, if_neg (show ¬ i = d by omega)]) (fun i hi => by simp only [bl_y, upd, if_neg (show ¬ i = h by omega)]) S)
    rw [pk_uLs, pk_us, pk_us]; exact hg
  · exact nm_r (nI_pred d) ⟨i3, nm_r (e' := nI (48 * r + t)) (by rw [cd, hfc]) ⟨i3, i3, nm_r (e' := upd fd d 1) (by rw [cd, hfd]; rfl) ⟨i240, nm_r (e' := 9) (by rw [cp, hk]) (br_f (by decide) (br_f (by decide) (br_f (by decide) (br_f (by decide) (br_f (by decide) (br_f (by decide) (br_f (by decide) (br_f (by decide) (br_f (by decide) (br_t rfl (⟨i240, ⟨i3, br_t (by rw [cd, pk_us]) ⟨i3, nm_r (e' := vp_updL fv d xg) (by rw [cd]) (bl_x_sp2 K.2.2 hr (by omega) E1 d3 p240 hfc hp)⟩⟩⟩)))))))))))⟩⟩⟩
  · refine nm_r (nI_pred h) ⟨j3, nm_r (e' := nI (bl_yb r + t)) (by rw [ch, hgt]) ⟨j240, nm_r (e' := 9) (by rw [cq, kq, hk]) ⟨j240, nm_r (e' := vX (48 * r + t)) (by rw [cq, nq]) ⟨j3, nm_r (e' := 0) (by rw [ch, hph]) ⟨j3, j3, nm_r (e' := upd ph h 1) (by rw [ch, hph]; rfl) (br_f (by decide) (br_f (by decide) (br_f (by decide) (br_t rfl (br_f (by decide) (br_f (by decide) (⟨j3, nm_r (e' := upd gk h yk) (by rw [ch]) ⟨j3, nm_r (e' := upd gv h yv) (by rw [ch]) (bl_y_op1 y1 he ⟨j3, ?_⟩)⟩⟩)))))))⟩⟩⟩⟩⟩
    rw [ch, ← hge]; exact hp
theorem bl_G_keep10 (C : bl_Cf L dl kX vX df pr sp kY nY en ln) (hcl : cl ≤ st) (hst : st ≤ 300) (So : bl_So sp ss so po sc) (Co : bl_Co kX vX L cc cs cy cb sc cl) (P : bl_Po cl pl pk pv) (V : bl_Vo cl sc sv pk pv) (hd : d + 1 ≤ st) (hw : 3001 * sc + (3009 + s) ≤ 3010 * st) (S : bl_St kX vX L sc cl (bl_x fc fs fb fd fv fe kp kv) (bl_y gt ph ge gk gv bp ok ov ob) d h (fb d) s) (hg : bl_vg cl xg yk yv) (hr : r < 5) (ht : t < L r) (hfc : fc d = nI (48 * r + t)) (hgt : gt h = nI (bl_yb r + t)) (hge : fs d = ge h) (hfs : bl_sc sc (fs d)) (hob : fb d = ob h) (hk : kX (48 * r + t) = 10) (hfd : fd d = 0) (hph : ph h = 0) (hkp : kp d = -1) (hbp : bp h = -1) (hxb : xb = fb d) : ∃ u' v' q, q < 3010 * (300 - st) + (3009 + s) ∧ bl_RR L q u' v' ∧ (∀ post : SX → Prop, post u' → wpX_resumeFrame post (dl, lr, lc, (nI st), (nI (d + 1)), (nI cl), (nI sc), 1, xa, xs, xb, xg, 0, kX, vX, df, pr, sp, pl, th, fc, fs, fb, fd, fv, fe, kp, kv, cc, cs, ss, sv, so)) ∧ (∀ post : SY → Prop, post v' → wpY_give post ((nI sc), (nI cl), (nI (h + 1)), xb, (nI st), 0, ya, ys, yk, yv, yc, yt, rk, rv, kY, nY, en, ln, pr, sp, pk, pv, th, ss, po, so, cy, cb, cs, gt, ph, ge, gk, gv, bp, ok, ov, ob)) := by
  have K := C.1
  have p240 := bl_pX K hr ht
  have q240 := bl_pY K hr ht
  have kq := (bl_kY K hr ht).1
  have nq := (bl_kY K hr ht).2
  have tk := K.2.2 _ p240
  have R := C.2.1 r hr (by omega)
  have l48 := K.1 r hr
  have i240 : vp_in (nI (48 * r + t)) 240 := vp_in_nI p240 (by decide)
  have j240 : vp_in (nI (bl_yb r + t)) 240 := vp_in_nI q240 (by decide)
  have cp : (nI (48 * r + t)).toNatClampNeg = 48 * r + t := nI_clamp (by omega)
  have cq : (nI (bl_yb r + t)).toNatClampNeg = bl_yb r + t := nI_clamp (by omega)
  have hh := bl_St_le _ _ _ _ S
  have d3 : d < 300 := by omega
  have h3 : h < 320 := by omega
  have cd : (nI d).toNatClampNeg = d := nI_clamp (by omega)
  have ch : (nI h).toNatClampNeg = h := nI_clamp (by omega)
  have i3 : vp_in (nI d) 300 := vp_in_nI d3 (by decide)
  have j3 : vp_in (nI h) 320 := vp_in_nI h3 (by decide)
  have cl3 : cl < 1000 := by omega
  subst hxb
  have ka : 1 < bl_ar (kX (48 * r + t)) := by rw [hk]; decide
  have t1 := bl_p0 R ht (by omega)
  have y1 := bl_pY K hr t1
  obtain ⟨m, hm, E1, he⟩ := bl_p1 R ht ka
  refine ⟨(dl, lr, lc, (nI st), (nI (d + 1)), (nI cl), (nI sc), 0, (nI (48 * r + m)), (fs d), (fb d), xg, 0, kX, vX, df, pr, sp, pl, th, fc, fs, fb, (upd fd d 1), (vp_updL fv d xg), fe, kp, kv, cc, cs, ss, sv, so), ((nI sc), (nI cl), (nI (h + 1)), (fb d), (nI st), 1, (nI (bl_yb r + m)), (fs d), yk, yv, yc, yt, rk, rv, kY, nY, en, ln, pr, sp, pk, pv, th, ss, po, so, cy, cb, cs, gt, (upd ph h 1), ge, (upd gk h yk), (upd gv h yv), bp, ok, ov, ob), _, ?_, bl_mkE (s := 6 + s) C (by omega) hcl hst (by omega) So Co P V ?_ hfs hr hm rfl, fun post hp => ?_, fun post hp => ?_⟩
  · omega
  · refine bl_St_mk (r := r) (t := t) (e := 1) hr ht hfc hgt hge hfs hob pk_us (by rw [hk]; decide) (by rw [hk]; rfl) (Or.inr (Or.inr (Or.inl ⟨rfl, pk_us, Or.inr (Or.inr (Or.inl hk)), hkp, hbp, ?_⟩))) (bl_St_cg (Nat.le_refl _) (Nat.le_refl _) d h _ s (fun i hi => by simp only [bl_x, upd, vp_updL, if_neg (show ¬ i = d by omega)]) (fun i hi => by simp only [bl_y, upd, if_neg (show ¬ i = h by omega)]) S)
    rw [pk_uLs, pk_us, pk_us]; exact hg
  · exact nm_r (nI_pred d) ⟨i3, nm_r (e' := nI (48 * r + t)) (by rw [cd, hfc]) ⟨i3, i3, nm_r (e' := upd fd d 1) (by rw [cd, hfd]; rfl) ⟨i240, nm_r (e' := 10) (by rw [cp, hk]) (br_f (by decide) (br_f (by decide) (br_f (by decide) (br_f (by decide) (br_f (by decide) (br_f (by decide) (br_f (by decide) (br_f (by decide) (br_f (by decide) (br_f (by decide) (br_t rfl (⟨i240, ⟨i3, br_t (by rw [cd, pk_us]) ⟨i3, nm_r (e' := vp_updL fv d xg) (by rw [cd]) (bl_x_sp2 K.2.2 hr (by omega) E1 d3 p240 hfc hp)⟩⟩⟩))))))))))))⟩⟩⟩
  · refine nm_r (nI_pred h) ⟨j3, nm_r (e' := nI (bl_yb r + t)) (by rw [ch, hgt]) ⟨j240, nm_r (e' := 10) (by rw [cq, kq, hk]) ⟨j240, nm_r (e' := vX (48 * r + t)) (by rw [cq, nq]) ⟨j3, nm_r (e' := 0) (by rw [ch, hph]) ⟨j3, j3, nm_r (e' := upd ph h 1) (by rw [ch, hph]; rfl) (br_f (by decide) (br_f (by decide) (br_f (by decide) (br_t rfl (br_f (by decide) (br_f (by decide) (⟨j3, nm_r (e' := upd gk h yk) (by rw [ch]) ⟨j3, nm_r (e' := upd gv h yv) (by rw [ch]) (bl_y_op1 y1 he ⟨j3, ?_⟩)⟩⟩)))))))⟩⟩⟩⟩⟩
    rw [ch, ← hge]; exact hp
theorem bl_G_keep11 (C : bl_Cf L dl kX vX df pr sp kY nY en ln) (hcl : cl ≤ st) (hst : st ≤ 300) (So : bl_So sp ss so po sc) (Co : bl_Co kX vX L cc cs cy cb sc cl) (P : bl_Po cl pl pk pv) (V : bl_Vo cl sc sv pk pv) (hd : d + 1 ≤ st) (hw : 3001 * sc + (3009 + s) ≤ 3010 * st) (S : bl_St kX vX L sc cl (bl_x fc fs fb fd fv fe kp kv) (bl_y gt ph ge gk gv bp ok ov ob) d h (fb d) s) (hg : bl_vg cl xg yk yv) (hr : r < 5) (ht : t < L r) (hfc : fc d = nI (48 * r + t)) (hgt : gt h = nI (bl_yb r + t)) (hge : fs d = ge h) (hfs : bl_sc sc (fs d)) (hob : fb d = ob h) (hk : kX (48 * r + t) = 11) (hfd : fd d = 0) (hph : ph h = 0) (hkp : kp d = -1) (hbp : bp h = -1) (hxb : xb = fb d) : ∃ u' v' q, q < 3010 * (300 - st) + (3009 + s) ∧ bl_RR L q u' v' ∧ (∀ post : SX → Prop, post u' → wpX_resumeFrame post (dl, lr, lc, (nI st), (nI (d + 1)), (nI cl), (nI sc), 1, xa, xs, xb, xg, 0, kX, vX, df, pr, sp, pl, th, fc, fs, fb, fd, fv, fe, kp, kv, cc, cs, ss, sv, so)) ∧ (∀ post : SY → Prop, post v' → wpY_give post ((nI sc), (nI cl), (nI (h + 1)), xb, (nI st), 0, ya, ys, yk, yv, yc, yt, rk, rv, kY, nY, en, ln, pr, sp, pk, pv, th, ss, po, so, cy, cb, cs, gt, ph, ge, gk, gv, bp, ok, ov, ob)) := by
  have K := C.1
  have p240 := bl_pX K hr ht
  have q240 := bl_pY K hr ht
  have kq := (bl_kY K hr ht).1
  have nq := (bl_kY K hr ht).2
  have tk := K.2.2 _ p240
  have R := C.2.1 r hr (by omega)
  have l48 := K.1 r hr
  have i240 : vp_in (nI (48 * r + t)) 240 := vp_in_nI p240 (by decide)
  have j240 : vp_in (nI (bl_yb r + t)) 240 := vp_in_nI q240 (by decide)
  have cp : (nI (48 * r + t)).toNatClampNeg = 48 * r + t := nI_clamp (by omega)
  have cq : (nI (bl_yb r + t)).toNatClampNeg = bl_yb r + t := nI_clamp (by omega)
  have hh := bl_St_le _ _ _ _ S
  have d3 : d < 300 := by omega
  have h3 : h < 320 := by omega
  have cd : (nI d).toNatClampNeg = d := nI_clamp (by omega)
  have ch : (nI h).toNatClampNeg = h := nI_clamp (by omega)
  have i3 : vp_in (nI d) 300 := vp_in_nI d3 (by decide)
  have j3 : vp_in (nI h) 320 := vp_in_nI h3 (by decide)
  have cl3 : cl < 1000 := by omega
  subst hxb
  have ka : 1 < bl_ar (kX (48 * r + t)) := by rw [hk]; decide
  have t1 := bl_p0 R ht (by omega)
  have y1 := bl_pY K hr t1
  obtain ⟨m, hm, E1, he⟩ := bl_p1 R ht ka
  refine ⟨(dl, lr, lc, (nI st), (nI (d + 1)), (nI cl), (nI sc), 0, (nI (48 * r + m)), (fs d), (fb d), xg, 0, kX, vX, df, pr, sp, pl, th, fc, fs, fb, (upd fd d 1), (vp_updL fv d xg), fe, kp, kv, cc, cs, ss, sv, so), ((nI sc), (nI cl), (nI (h + 1)), (fb d), (nI st), 1, (nI (bl_yb r + m)), (fs d), yk, yv, yc, yt, rk, rv, kY, nY, en, ln, pr, sp, pk, pv, th, ss, po, so, cy, cb, cs, gt, (upd ph h 1), ge, (upd gk h yk), (upd gv h yv), bp, ok, ov, ob), _, ?_, bl_mkE (s := 6 + s) C (by omega) hcl hst (by omega) So Co P V ?_ hfs hr hm rfl, fun post hp => ?_, fun post hp => ?_⟩
  · omega
  · refine bl_St_mk (r := r) (t := t) (e := 1) hr ht hfc hgt hge hfs hob pk_us (by rw [hk]; decide) (by rw [hk]; rfl) (Or.inr (Or.inr (Or.inl ⟨rfl, pk_us, Or.inr (Or.inr (Or.inr hk)), hkp, hbp, ?_⟩))) (bl_St_cg (Nat.le_refl _) (Nat.le_refl _) d h _ s (fun i hi => by simp only [bl_x, upd, vp_updL, if_neg (show ¬ i = d by omega)]) (fun i hi => by simp only [bl_y, upd, if_neg (show ¬ i = h by omega)]) S)
    rw [pk_uLs, pk_us, pk_us]; exact hg
  · exact nm_r (nI_pred d) ⟨i3, nm_r (e' := nI (48 * r + t)) (by rw [cd, hfc]) ⟨i3, i3, nm_r (e' := upd fd d 1) (by rw [cd, hfd]; rfl) ⟨i240, nm_r (e' := 11) (by rw [cp, hk]) (br_f (by decide) (br_f (by decide) (br_f (by decide) (br_f (by decide) (br_f (by decide) (br_f (by decide) (br_f (by decide) (br_f (by decide) (br_f (by decide) (br_f (by decide) (br_f (by decide) (br_t rfl (⟨i240, ⟨i3, br_t (by rw [cd, pk_us]) ⟨i3, nm_r (e' := vp_updL fv d xg) (by rw [cd]) (bl_x_sp2 K.2.2 hr (by omega) E1 d3 p240 hfc hp)⟩⟩⟩)))))))))))))⟩⟩⟩
  · refine nm_r (nI_pred h) ⟨j3, nm_r (e' := nI (bl_yb r + t)) (by rw [ch, hgt]) ⟨j240, nm_r (e' := 11) (by rw [cq, kq, hk]) ⟨j240, nm_r (e' := vX (48 * r + t)) (by rw [cq, nq]) ⟨j3, nm_r (e' := 0) (by rw [ch, hph]) ⟨j3, j3, nm_r (e' := upd ph h 1) (by rw [ch, hph]; rfl) (br_f (by decide) (br_f (by decide) (br_f (by decide) (br_t rfl (br_f (by decide) (br_f (by decide) (⟨j3, nm_r (e' := upd gk h yk) (by rw [ch]) ⟨j3, nm_r (e' := upd gv h yv) (by rw [ch]) (bl_y_op1 y1 he ⟨j3, ?_⟩)⟩⟩)))))))⟩⟩⟩⟩⟩
    rw [ch, ← hge]; exact hp
theorem bl_G_keep15 (C : bl_Cf L dl kX vX df pr sp kY nY en ln) (hcl : cl ≤ st) (hst : st ≤ 300) (So : bl_So sp ss so po sc) (Co : bl_Co kX vX L cc cs cy cb sc cl) (P : bl_Po cl pl pk pv) (V : bl_Vo cl sc sv pk pv) (hd : d + 1 ≤ st) (hw : 3001 * sc + (3009 + s) ≤ 3010 * st) (S : bl_St kX vX L sc cl (bl_x fc fs fb fd fv fe kp kv) (bl_y gt ph ge gk gv bp ok ov ob) d h (fb d) s) (hg : bl_vg cl xg yk yv) (hr : r < 5) (ht : t < L r) (hfc : fc d = nI (48 * r + t)) (hgt : gt h = nI (bl_yb r + t)) (hge : fs d = ge h) (hfs : bl_sc sc (fs d)) (hob : fb d = ob h) (hk : kX (48 * r + t) = 15) (hfd : fd d = 0) (hph : ph h = 0) (hkp : kp d = -1) (hbp : bp h = -1) (hxb : xb = fb d) : ∃ u' v' q, q < 3010 * (300 - st) + (3009 + s) ∧ bl_RR L q u' v' ∧ (∀ post : SX → Prop, post u' → wpX_resumeFrame post (dl, lr, lc, (nI st), (nI (d + 1)), (nI cl), (nI sc), 1, xa, xs, xb, xg, 0, kX, vX, df, pr, sp, pl, th, fc, fs, fb, fd, fv, fe, kp, kv, cc, cs, ss, sv, so)) ∧ (∀ post : SY → Prop, post v' → wpY_give post ((nI sc), (nI cl), (nI (h + 1)), xb, (nI st), 0, ya, ys, yk, yv, yc, yt, rk, rv, kY, nY, en, ln, pr, sp, pk, pv, th, ss, po, so, cy, cb, cs, gt, ph, ge, gk, gv, bp, ok, ov, ob)) := by
  have K := C.1
  have p240 := bl_pX K hr ht
  have q240 := bl_pY K hr ht
  have kq := (bl_kY K hr ht).1
  have nq := (bl_kY K hr ht).2
  have tk := K.2.2 _ p240
  have R := C.2.1 r hr (by omega)
  have l48 := K.1 r hr
  have i240 : vp_in (nI (48 * r + t)) 240 := vp_in_nI p240 (by decide)
  have j240 : vp_in (nI (bl_yb r + t)) 240 := vp_in_nI q240 (by decide)
  have cp : (nI (48 * r + t)).toNatClampNeg = 48 * r + t := nI_clamp (by omega)
  have cq : (nI (bl_yb r + t)).toNatClampNeg = bl_yb r + t := nI_clamp (by omega)
  have hh := bl_St_le _ _ _ _ S
  have d3 : d < 300 := by omega
  have h3 : h < 320 := by omega
  have cd : (nI d).toNatClampNeg = d := nI_clamp (by omega)
  have ch : (nI h).toNatClampNeg = h := nI_clamp (by omega)
  have i3 : vp_in (nI d) 300 := vp_in_nI d3 (by decide)
  have j3 : vp_in (nI h) 320 := vp_in_nI h3 (by decide)
  have cl3 : cl < 1000 := by omega
  subst hxb
  have ka : 1 < bl_ar (kX (48 * r + t)) := by rw [hk]; decide
  have t1 := bl_p0 R ht (by omega)
  have y1 := bl_pY K hr t1
  obtain ⟨m, hm, E1, he⟩ := bl_p1 R ht ka
  refine ⟨(dl, lr, lc, (nI st), (nI (d + 1)), (nI cl), (nI sc), 0, (nI (48 * r + m)), (fs d), (fb d), xg, 0, kX, vX, df, pr, sp, pl, th, fc, fs, fb, (upd (upd fd d 1) d 1), (vp_updL fv d xg), (upd fe d 0), kp, kv, cc, cs, ss, sv, so), ((nI sc), (nI cl), (nI (h + 1)), (fb d), (nI st), 1, (nI (bl_yb r + m)), (fs d), yk, yv, yc, yt, rk, rv, kY, nY, en, ln, pr, sp, pk, pv, th, ss, po, so, cy, cb, cs, gt, (upd ph h 1), ge, (upd gk h yk), (upd gv h yv), bp, ok, ov, ob), _, ?_, bl_mkE (s := 6 + s) C (by omega) hcl hst (by omega) So Co P V ?_ hfs hr hm rfl, fun post hp => ?_, fun post hp => ?_⟩
  · omega
  · refine bl_St_mk (r := r) (t := t) (e := 1) hr ht hfc hgt hge hfs hob pk_us (by rw [hk]; decide) (by rw [hk]; rfl) (Or.inr (Or.inr (Or.inr (Or.inr (Or.inl ⟨rfl, pk_us, hk, hkp, hbp, pk_us, ?_⟩))))) (bl_St_cg (Nat.le_refl _) (Nat.le_refl _) d h _ s (fun i hi => by simp only [bl_x, upd, vp_updL, if_neg (show ¬ i = d by omega)]) (fun i hi => by simp only [bl_y, upd, if_neg (show ¬ i = h by omega)]) S)
    rw [pk_uLs, pk_us, pk_us]; exact hg
  · exact nm_r (nI_pred d) ⟨i3, nm_r (e' := nI (48 * r + t)) (by rw [cd, hfc]) ⟨i3, i3, nm_r (e' := upd fd d 1) (by rw [cd, hfd]; rfl) ⟨i240, nm_r (e' := 15) (by rw [cp, hk]) (br_f (by decide) (br_f (by decide) (br_f (by decide) (br_f (by decide) (br_f (by decide) (br_f (by decide) (br_f (by decide) (br_f (by decide) (br_f (by decide) (br_f (by decide) (br_f (by decide) (br_f (by decide) (br_f (by decide) (br_f (by decide) (br_f (by decide) (br_t rfl (⟨i3, br_t (by rw [cd, pk_us]) ⟨i3, nm_r (e' := upd (upd fd d 1) d 1) (by rw [cd]) ⟨i3, nm_r (e' := vp_updL fv d xg) (by rw [cd]) ⟨i3, nm_r (e' := upd fe d 0) (by rw [cd]) (bl_x_sp2 K.2.2 hr (by omega) E1 d3 p240 hfc hp)⟩⟩⟩⟩)))))))))))))))))⟩⟩⟩
  · refine nm_r (nI_pred h) ⟨j3, nm_r (e' := nI (bl_yb r + t)) (by rw [ch, hgt]) ⟨j240, nm_r (e' := 15) (by rw [cq, kq, hk]) ⟨j240, nm_r (e' := vX (48 * r + t)) (by rw [cq, nq]) ⟨j3, nm_r (e' := 0) (by rw [ch, hph]) ⟨j3, j3, nm_r (e' := upd ph h 1) (by rw [ch, hph]; rfl) (br_f (by decide) (br_f (by decide) (br_t (by decide) (br_t rfl (br_f (by decide) (br_t rfl (br_t rfl (⟨j3, nm_r (e' := upd gk h yk) (by rw [ch]) ⟨j3, nm_r (e' := upd gv h yv) (by rw [ch]) (bl_y_op1 y1 he ⟨j3, ?_⟩)⟩⟩))))))))⟩⟩⟩⟩⟩
    rw [ch, ← hge]; exact hp
theorem bl_G_let (C : bl_Cf L dl kX vX df pr sp kY nY en ln) (hcl : cl ≤ st) (hst : st ≤ 300) (So : bl_So sp ss so po sc) (Co : bl_Co kX vX L cc cs cy cb sc cl) (P : bl_Po cl pl pk pv) (V : bl_Vo cl sc sv pk pv) (hd : d + 1 ≤ st) (hw : 3001 * sc + (3009 + s) ≤ 3010 * st) (S : bl_St kX vX L sc cl (bl_x fc fs fb fd fv fe kp kv) (bl_y gt ph ge gk gv bp ok ov ob) d h (fb d) s) (hg : bl_vg cl xg yk yv) (hr : r < 5) (ht : t < L r) (hfc : fc d = nI (48 * r + t)) (hgt : gt h = nI (bl_yb r + t)) (hge : fs d = ge h) (hfs : bl_sc sc (fs d)) (hob : fb d = ob h) (hk : kX (48 * r + t) = 3) (hfd : fd d = 0) (hph : ph h = 0) (hkp : kp d = -1) (hbp : bp h = -1) (hxb : xb = fb d) : ∃ u' v' q, q < 3010 * (300 - st) + (3009 + s) ∧ bl_RR L q u' v' ∧ (∀ post : SX → Prop, post u' → wpX_resumeFrame post (dl, lr, lc, (nI st), (nI (d + 1)), (nI cl), (nI sc), 1, xa, xs, xb, xg, 0, kX, vX, df, pr, sp, pl, th, fc, fs, fb, fd, fv, fe, kp, kv, cc, cs, ss, sv, so)) ∧ (∀ post : SY → Prop, post v' → wpY_give post ((nI sc), (nI cl), (nI (h + 1)), xb, (nI st), 0, ya, ys, yk, yv, yc, yt, rk, rv, kY, nY, en, ln, pr, sp, pk, pv, th, ss, po, so, cy, cb, cs, gt, ph, ge, gk, gv, bp, ok, ov, ob)) := by
  have K := C.1
  have p240 := bl_pX K hr ht
  have q240 := bl_pY K hr ht
  have kq := (bl_kY K hr ht).1
  have nq := (bl_kY K hr ht).2
  have tk := K.2.2 _ p240
  have R := C.2.1 r hr (by omega)
  have l48 := K.1 r hr
  have i240 : vp_in (nI (48 * r + t)) 240 := vp_in_nI p240 (by decide)
  have j240 : vp_in (nI (bl_yb r + t)) 240 := vp_in_nI q240 (by decide)
  have cp : (nI (48 * r + t)).toNatClampNeg = 48 * r + t := nI_clamp (by omega)
  have cq : (nI (bl_yb r + t)).toNatClampNeg = bl_yb r + t := nI_clamp (by omega)
  have hh := bl_St_le _ _ _ _ S
  have d3 : d < 300 := by omega
  have h3 : h < 320 := by omega
  have cd : (nI d).toNatClampNeg = d := nI_clamp (by omega)
  have ch : (nI h).toNatClampNeg = h := nI_clamp (by omega)
  have i3 : vp_in (nI d) 300 := vp_in_nI d3 (by decide)
  have j3 : vp_in (nI h) 320 := vp_in_nI h3 (by decide)
  have cl3 : cl < 1000 := by omega
  obtain ⟨b, hb, eb⟩ := bl_St_b K _ _ _ _ S
  rw [eb] at hxb
  subst hxb
  have ka : 1 < bl_ar (kX (48 * r + t)) := by rw [hk]; decide
  have t1 := bl_p0 R ht (by omega)
  have y1 := bl_pY K hr t1
  obtain ⟨m, hm, E1, he⟩ := bl_p1 R ht ka
  obtain ⟨j, hj, ej⟩ := bl_tk8 tk (by rw [hk]; decide)
  obtain ⟨pl', pk', pv', ss', sv', so', po', kp', kv', bp', ok', ov', sc', i, So', P', V', s1, s2, hsi, hbd, hkk, hoo, hX, hY⟩ := bl_bind (dl := dl) (lr := lr) (lc := lc) (xst := nI st) (xcl := nI cl) (xm := 1) (xa := xa) (xs := xs) (xg := xg) (xe := 0) (kX := kX) (vX := vX) (df := df) (pr := pr) (sp := sp) (pl := pl) (th := th) (fc := fc) (fs := fs) (fb := fb) (fd := upd fd d 1) (fv := fv) (fe := fe) (kp := kp) (kv := kv) (cc := cc) (cs := cs) (ss := ss) (sv := sv) (so := so) (ycl := nI cl) (yw := nI (h + 1)) (ym := 0) (ya := ya) (ys := ys) (yk := yk) (yv := yv) (yc := yc) (yt := yt) (rk := rk) (rv := rv) (kY := kY) (nY := nY) (en := en) (ln := ln) (pk := pk) (pv := pv) (po := po) (cy := cy) (cb := cb) (gt := gt) (ph := upd ph h 1) (ge := ge) (gk := gk) (gv := gv) (bp := bp) (ok := ok) (ov := ov) (ob := ob) (d := d) (w := h) (j := j) (b := b) (o := fs d) (tk := nI (bl_yb r + m)) So P V (by omega) d3 h3 hj hb (hfs) hg hkp hbp
  refine ⟨(dl, lr, lc, (nI st), (nI (d + 1)), (nI cl), (nI sc'), 0, (nI (48 * r + m)), i, (nI b), xg, 0, kX, vX, df, pr, sp, pl', th, fc, fs, fb, (upd fd d 1), fv, fe, kp', kv', cc, cs, ss', sv', so'), ((nI sc'), (nI cl), (nI (h + 1)), (nI b), (nI st), 1, (nI (bl_yb r + m)), i, yk, yv, yc, yt, rk, rv, kY, nY, en, ln, pr, sp, pk', pv', th, ss', po', so', cy, cb, cs, gt, (upd ph h 1), ge, gk, gv, bp', ok', ov', ob), _, ?_, bl_mkE (s := 6 + s) C (by omega) hcl hst (by omega) So' (bl_Co_up s1 Co) P' V' ?_ hsi hr hm rfl, fun post hp => ?_, fun post hp => ?_⟩
  · omega
  · exact bl_St_mk (r := r) (t := t) (e := 1) hr ht hfc hgt hge (bl_sc_up s1 hfs) hob pk_us (by rw [hk]; decide) (by rw [hk, eb]; rfl) (Or.inr (Or.inl ⟨rfl, pk_us, Or.inl hk, hbd⟩)) (bl_St_cg s1 (Nat.le_refl _) d h _ s (fun i hi => by simp only [bl_x, upd, vp_updL, if_neg (show ¬ i = d by omega), (hkk i (by omega)).1, (hkk i (by omega)).2]) (fun i hi => by simp only [bl_y, upd, if_neg (show ¬ i = h by omega), (hoo i (by omega)).1, (hoo i (by omega)).2.1, (hoo i (by omega)).2.2]) S)
  · refine nm_r (nI_pred d) ⟨i3, nm_r (e' := nI (48 * r + t)) (by rw [cd, hfc]) ⟨i3, i3, nm_r (e' := upd fd d 1) (by rw [cd, hfd]; rfl) ⟨i240, nm_r (e' := 3) (by rw [cp, hk]) (br_f (by decide) (br_f (by decide) (br_f (by decide) (br_t rfl (⟨i240, ⟨i3, br_t (by rw [cd, pk_us]) ⟨i3, ?_⟩⟩⟩)))))⟩⟩⟩
    rw [cp, cd, ej]
    exact hX _ (bl_x_sp2 K.2.2 hr (by omega) E1 d3 p240 hfc hp)
  · refine nm_r (nI_pred h) ⟨j3, nm_r (e' := nI (bl_yb r + t)) (by rw [ch, hgt]) ⟨j240, nm_r (e' := 3) (by rw [cq, kq, hk]) ⟨j240, nm_r (e' := vX (48 * r + t)) (by rw [cq, nq]) ⟨j3, nm_r (e' := 0) (by rw [ch, hph]) ⟨j3, j3, nm_r (e' := upd ph h 1) (by rw [ch, hph]; rfl) (br_f (by decide) (br_t (by decide) (br_t rfl (br_f (by decide) (br_t rfl (br_f (by decide) (br_f (by decide) (br_f (by decide) (br_f (by decide) (br_f (by decide) (br_f (by decide) (br_t rfl (bl_y_op1 y1 he ⟨j3, ?_⟩)))))))))))))⟩⟩⟩⟩⟩
    rw [ch, ej, ← hge]
    exact hY _ hp
end
end
section
/-! turns: a value is given to the frame on top (3) -/
section
variable {dl lc xst xd xcl xsc xm xa xs xb xe yen ycl yw ym ya ys yk yv yc yt rk rv : Int32}
variable {lr xg : Int64}
variable {kX vX df pr sp th fc fs fb fd fe kp cc cs ss so kY nY en ln pk pv po cy cb gt ph ge gk gv bp ok ov ob : Nat → Int32}
variable {pl fv kv sv : Nat → Int64}
variable {L : Nat → Nat} {q d h sc cl st s r t m m2 p j b w e : Nat}
theorem bl_G_miss (C : bl_Cf L dl kX vX df pr sp kY nY en ln) (hcl : cl ≤ st) (hst : st ≤ 300) (So : bl_So sp ss so po sc) (Co : bl_Co kX vX L cc cs cy cb sc cl) (P : bl_Po cl pl pk pv) (V : bl_Vo cl sc sv pk pv) (hd : d + 1 ≤ st) (hw : 3001 * sc + (3009 + s) ≤ 3010 * st) (S : bl_St kX vX L sc cl (bl_x fc fs fb fd fv fe kp kv) (bl_y gt ph ge gk gv bp ok ov ob) d h (fb d) s) (hg : bl_vg cl xg yk yv) (hr : r < 5) (ht : t < L r) (hfc : fc d = nI (48 * r + t)) (hgt : gt h = nI (bl_yb r + t)) (hge : fs d = ge h) (hfs : bl_sc sc (fs d)) (hob : fb d = ob h) (hk : kX (48 * r + t) = 6) (hfd : fd d = 0) (hph : ph h = 0) (hkp : kp d = -1) (hbp : bp h = -1) (hxb : xb = fb d) (hj : j < 4) (ej : vX (48 * r + t) = nI j) (hdf : df j = 0) (hln : ln j = 0) : ∃ u' v' q, q < 3010 * (300 - st) + (3009 + s) ∧ bl_RR L q u' v' ∧ (∀ post : SX → Prop, post u' → wpX_resumeFrame post (dl, lr, lc, (nI st), (nI (d + 1)), (nI cl), (nI sc), 1, xa, xs, xb, xg, 0, kX, vX, df, pr, sp, pl, th, fc, fs, fb, fd, fv, fe, kp, kv, cc, cs, ss, sv, so)) ∧ (∀ post : SY → Prop, post v' → wpY_give post ((nI sc), (nI cl), (nI (h + 1)), xb, (nI st), 0, ya, ys, yk, yv, yc, yt, rk, rv, kY, nY, en, ln, pr, sp, pk, pv, th, ss, po, so, cy, cb, cs, gt, ph, ge, gk, gv, bp, ok, ov, ob)) := by
  have K := C.1
  have p240 := bl_pX K hr ht
  have q240 := bl_pY K hr ht
  have kq := (bl_kY K hr ht).1
  have nq := (bl_kY K hr ht).2
  have tk := K.2.2 _ p240
  have R := C.2.1 r hr (by omega)
  have l48 := K.1 r hr
  have i240 : vp_in (nI (48 * r + t)) 240 := vp_in_nI p240 (by decide)
  have j240 : vp_in (nI (bl_yb r + t)) 240 := vp_in_nI q240 (by decide)
  have cp : (nI (48 * r + t)).toNatClampNeg = 48 * r + t := nI_clamp (by omega)
  have cq : (nI (bl_yb r + t)).toNatClampNeg = bl_yb r + t := nI_clamp (by omega)
  have hh := bl_St_le _ _ _ _ S
  have d3 : d < 300 := by omega
  have h3 : h < 320 := by omega
  have cd : (nI d).toNatClampNeg = d := nI_clamp (by omega)
  have ch : (nI h).toNatClampNeg = h := nI_clamp (by omega)
  have i3 : vp_in (nI d) 300 := vp_in_nI d3 (by decide)
  have j3 : vp_in (nI h) 320 := vp_in_nI h3 (by decide)
  have cl3 : cl < 1000 := by omega
  subst hxb
  have cj : (nI j).toNatClampNeg = j := nI_clamp (by omega)
  refine ⟨(dl, lr, lc, (nI st), (nI (d + 1)), (nI cl), (nI sc), 2, xa, xs, (fb d), xg, 3, kX, vX, df, pr, sp, pl, th, fc, fs, fb, (upd fd d 1), fv, fe, kp, kv, cc, cs, ss, sv, so), ((nI sc), (nI cl), (nI h), (fb d), (nI st), 2, ya, ys, yk, yv, 3, (-1), rk, rv, kY, nY, en, ln, pr, sp, pk, pv, th, ss, po, so, cy, cb, cs, gt, (upd ph h 1), ge, gk, gv, bp, ok, ov, ob), _, ?_, bl_mkN (s := 1 + s) C (by omega) hcl hst (by omega) So Co P V (Or.inr ⟨d, s, rfl, rfl, ⟨r, t, hr, ht, hfc, Or.inr (Or.inl hk), hkp, rfl⟩, bl_St_cg (Nat.le_refl _) (Nat.le_refl _) d h _ s (fun i hi => by simp only [bl_x, upd, vp_updL, if_neg (show ¬ i = d by omega)]) (fun i hi => by simp only [bl_y, upd, if_neg (show ¬ i = h by omega)]) S⟩) (Or.inl ⟨3, by omega, by omega, rfl, rfl, rfl⟩) rfl, fun post hp => ?_, fun post hp => ?_⟩
  · omega
  · refine nm_r (nI_pred d) ⟨i3, nm_r (e' := nI (48 * r + t)) (by rw [cd, hfc]) ⟨i3, i3, nm_r (e' := upd fd d 1) (by rw [cd, hfd]; rfl) ⟨i240, nm_r (e' := 6) (by rw [cp, hk]) (br_f (by decide) (br_f (by decide) (br_f (by decide) (br_f (by decide) (br_f (by decide) (br_f (by decide) (br_t rfl (⟨i240, ?_⟩))))))))⟩⟩⟩
    rw [cp, ej]
    exact ⟨i3, br_f (by rw [cd, pk_us]; decide) ⟨vp_in_nI hj (by decide), br_t (by rw [cj]; exact hdf) hp⟩⟩
  · refine nm_r (nI_pred h) ⟨j3, nm_r (e' := nI (bl_yb r + t)) (by rw [ch, hgt]) ⟨j240, nm_r (e' := 6) (by rw [cq, kq, hk]) ⟨j240, nm_r (e' := vX (48 * r + t)) (by rw [cq, nq]) ⟨j3, nm_r (e' := 0) (by rw [ch, hph]) ⟨j3, j3, nm_r (e' := upd ph h 1) (by rw [ch, hph]; rfl) (br_f (by decide) (br_t (by decide) (br_t rfl (br_f (by decide) (br_t rfl (br_f (by decide) (br_f (by decide) (br_f (by decide) (br_f (by decide) (br_f (by decide) (br_f (by decide) (br_f (by decide) (br_f (by decide) (br_t rfl (?_)))))))))))))))⟩⟩⟩⟩⟩
    rw [ej]
    exact ⟨vp_in_nI (by omega) (by decide), br_t (by rw [cj]; exact hln) (nm_r (nI_pred h) hp)⟩
theorem bl_G_named (C : bl_Cf L dl kX vX df pr sp kY nY en ln) (hcl : cl ≤ st) (hst : st ≤ 300) (So : bl_So sp ss so po sc) (Co : bl_Co kX vX L cc cs cy cb sc cl) (P : bl_Po cl pl pk pv) (V : bl_Vo cl sc sv pk pv) (hd : d + 1 ≤ st) (hw : 3001 * sc + (3009 + s) ≤ 3010 * st) (S : bl_St kX vX L sc cl (bl_x fc fs fb fd fv fe kp kv) (bl_y gt ph ge gk gv bp ok ov ob) d h (fb d) s) (hg : bl_vg cl xg yk yv) (hr : r < 5) (ht : t < L r) (hfc : fc d = nI (48 * r + t)) (hgt : gt h = nI (bl_yb r + t)) (hge : fs d = ge h) (hfs : bl_sc sc (fs d)) (hob : fb d = ob h) (hk : kX (48 * r + t) = 6) (hfd : fd d = 0) (hph : ph h = 0) (hkp : kp d = -1) (hbp : bp h = -1) (hxb : xb = fb d) (hm4 : m < 4) (em : vX (48 * r + t) = nI m) (hj : j < 8) (ej : pr m = nI j) (hdf : df m = 1) (hln : ln m = nI (L (m + 1))) (hL : 0 < L (m + 1)) : ∃ u' v' q, q < 3010 * (300 - st) + (3009 + s) ∧ bl_RR L q u' v' ∧ (∀ post : SX → Prop, post u' → wpX_resumeFrame post (dl, lr, lc, (nI st), (nI (d + 1)), (nI cl), (nI sc), 1, xa, xs, xb, xg, 0, kX, vX, df, pr, sp, pl, th, fc, fs, fb, fd, fv, fe, kp, kv, cc, cs, ss, sv, so)) ∧ (∀ post : SY → Prop, post v' → wpY_give post ((nI sc), (nI cl), (nI (h + 1)), xb, (nI st), 0, ya, ys, yk, yv, yc, yt, rk, rv, kY, nY, en, ln, pr, sp, pk, pv, th, ss, po, so, cy, cb, cs, gt, ph, ge, gk, gv, bp, ok, ov, ob)) := by
  have K := C.1
  have p240 := bl_pX K hr ht
  have q240 := bl_pY K hr ht
  have kq := (bl_kY K hr ht).1
  have nq := (bl_kY K hr ht).2
  have tk := K.2.2 _ p240
  have R := C.2.1 r hr (by omega)
  have l48 := K.1 r hr
  have i240 : vp_in (nI (48 * r + t)) 240 := vp_in_nI p240 (by decide)
  have j240 : vp_in (nI (bl_yb r + t)) 240 := vp_in_nI q240 (by decide)
  have cp : (nI (48 * r + t)).toNatClampNeg = 48 * r + t := nI_clamp (by omega)
  have cq : (nI (bl_yb r + t)).toNatClampNeg = bl_yb r + t := nI_clamp (by omega)
  have hh := bl_St_le _ _ _ _ S
  have d3 : d < 300 := by omega
  have h3 : h < 320 := by omega
  have cd : (nI d).toNatClampNeg = d := nI_clamp (by omega)
  have ch : (nI h).toNatClampNeg = h := nI_clamp (by omega)
  have i3 : vp_in (nI d) 300 := vp_in_nI d3 (by decide)
  have j3 : vp_in (nI h) 320 := vp_in_nI h3 (by decide)
  have cl3 : cl < 1000 := by omega
  obtain ⟨b, hb, eb⟩ := bl_St_b K _ _ _ _ S
  rw [eb] at hxb
  subst hxb
  have cm : (nI m).toNatClampNeg = m := nI_clamp (by omega)
  have lm := K.1 (m + 1) (by omega)
  obtain ⟨pl', pk', pv', ss', sv', so', po', kp', kv', bp', ok', ov', sc', i, So', P', V', s1, s2, hsi, hbd, hkk, hoo, hX, hY⟩ := bl_bind (dl := dl) (lr := lr) (lc := lc) (xst := nI st) (xcl := nI cl) (xm := 1) (xa := xa) (xs := xs) (xg := xg) (xe := 0) (kX := kX) (vX := vX) (df := df) (pr := pr) (sp := sp) (pl := pl) (th := th) (fc := fc) (fs := fs) (fb := fb) (fd := upd fd d 1) (fv := fv) (fe := fe) (kp := kp) (kv := kv) (cc := cc) (cs := cs) (ss := ss) (sv := sv) (so := so) (ycl := nI cl) (yw := nI (h + 1)) (ym := 0) (ya := ya) (ys := ys) (yk := yk) (yv := yv) (yc := yc) (yt := yt) (rk := rk) (rv := rv) (kY := kY) (nY := nY) (en := en) (ln := ln) (pk := pk) (pv := pv) (po := po) (cy := cy) (cb := cb) (gt := gt) (ph := upd ph h 1) (ge := ge) (gk := gk) (gv := gv) (bp := bp) (ok := ok) (ov := ov) (ob := ob) (d := d) (w := h) (j := j) (b := b) (o := (-1)) (tk := nI (bl_yb (m + 1) + 0)) So P V (by omega) d3 h3 hj hb (Or.inl rfl) hg hkp hbp
  have eX : (nI m + 1) * 48 = nI (48 * (m + 1) + 0) := by
    rw [nI_1, show (48 : Int32) = nI 48 from rfl, pk_mul, Nat.mul_comm]; rfl
  have eY : (48 : Int32) * nI m = nI (bl_yb (m + 1) + 0) := by
    rw [show (48 : Int32) = nI 48 from rfl, pk_mul]
    exact congrArg nI (by unfold bl_yb; rw [if_neg (by omega)]; omega)
  refine ⟨(dl, lr, lc, (nI st), (nI (d + 1)), (nI cl), (nI sc'), 0, (nI (48 * (m + 1) + 0)), i, (nI b), xg, 0, kX, vX, df, pr, sp, pl', th, fc, fs, fb, (upd fd d 1), fv, fe, kp', kv', cc, cs, ss', sv', so'), ((nI sc'), (nI cl), (nI (h + 1)), (nI b), (nI st), 1, (nI (bl_yb (m + 1) + 0)), i, yk, yv, yc, yt, rk, rv, kY, nY, en, ln, pr, sp, pk', pv', th, ss', po', so', cy, cb, cs, gt, (upd ph h 1), ge, gk, gv, bp', ok', ov', ob), _, ?_, bl_mkE (s := 6 + s) C (by omega) hcl hst (by omega) So' (bl_Co_up s1 Co) P' V' ?_ hsi (show m + 1 < 5 by omega) hL rfl, fun post hp => ?_, fun post hp => ?_⟩
  · omega
  · exact bl_St_mk (r := r) (t := t) (e := 1) hr ht hfc hgt hge (bl_sc_up s1 hfs) hob pk_us (by rw [hk]; decide) (by rw [hk, eb]; rfl) (Or.inr (Or.inl ⟨rfl, pk_us, Or.inr hk, hbd⟩)) (bl_St_cg s1 (Nat.le_refl _) d h _ s (fun i hi => by simp only [bl_x, upd, vp_updL, if_neg (show ¬ i = d by omega), (hkk i (by omega)).1, (hkk i (by omega)).2]) (fun i hi => by simp only [bl_y, upd, if_neg (show ¬ i = h by omega), (hoo i (by omega)).1, (hoo i (by omega)).2.1, (hoo i (by omega)).2.2]) S)
  · refine nm_r (nI_pred d) ⟨i3, nm_r (e' := nI (48 * r + t)) (by rw [cd, hfc]) ⟨i3, i3, nm_r (e' := upd fd d 1) (by rw [cd, hfd]; rfl) ⟨i240, nm_r (e' := 6) (by rw [cp, hk]) (br_f (by decide) (br_f (by decide) (br_f (by decide) (br_f (by decide) (br_f (by decide) (br_f (by decide) (br_t rfl (⟨i240, ?_⟩))))))))⟩⟩⟩
    rw [cp, em]
    refine ⟨i3, br_f (by rw [cd, pk_us]; decide) ⟨vp_in_nI hm4 (by decide), br_f (by rw [cm, hdf]; decide) ⟨vp_in_nI hm4 (by decide), ?_⟩⟩⟩
    rw [cm, ej]
    rw [← eX] at hp
    exact hX _ hp
  · refine nm_r (nI_pred h) ⟨j3, nm_r (e' := nI (bl_yb r + t)) (by rw [ch, hgt]) ⟨j240, nm_r (e' := 6) (by rw [cq, kq, hk]) ⟨j240, nm_r (e' := vX (48 * r + t)) (by rw [cq, nq]) ⟨j3, nm_r (e' := 0) (by rw [ch, hph]) ⟨j3, j3, nm_r (e' := upd ph h 1) (by rw [ch, hph]; rfl) (br_f (by decide) (br_t (by decide) (br_t rfl (br_f (by decide) (br_t rfl (br_f (by decide) (br_f (by decide) (br_f (by decide) (br_f (by decide) (br_f (by decide) (br_f (by decide) (br_f (by decide) (br_f (by decide) (br_t rfl (?_)))))))))))))))⟩⟩⟩⟩⟩
    rw [em]
    refine ⟨vp_in_nI (by omega) (by decide), br_f (by rw [cm, hln]; exact nI_ne0 hL (by omega)) ⟨vp_in_nI hm4 (by decide), ?_⟩⟩
    rw [cm, ej, eY]
    exact hY _ hp
theorem bl_lt_int (v : Int32) : v.toInt64 < (20000000000 : Int64) := Int64.not_le.mp (bl_int_nc v)
theorem bl_nlt_cl {n : Nat} (h : n < 1000) : ¬ 20000000000 + lN n < (20000000000 : Int64) := Int64.not_lt.mpr (bl_cl_c h)
theorem bl_G_type (C : bl_Cf L dl kX vX df pr sp kY nY en ln) (hcl : cl ≤ st) (hst : st ≤ 300) (So : bl_So sp ss so po sc) (Co : bl_Co kX vX L cc cs cy cb sc cl) (P : bl_Po cl pl pk pv) (V : bl_Vo cl sc sv pk pv) (hd : d + 1 ≤ st) (hw : 3001 * sc + (3007 + s) ≤ 3010 * st) (S : bl_St kX vX L sc cl (bl_x fc fs fb fd fv fe kp kv) (bl_y gt ph ge gk gv bp ok ov ob) d h (fb d) s) (hg : bl_vg cl xg yk yv) (hr : r < 5) (ht : t < L r) (hfc : fc d = nI (48 * r + t)) (hgt : gt h = nI (bl_yb r + t)) (hge : fs d = ge h) (hfs : bl_sc sc (fs d)) (hob : fb d = ob h) (hk : kX (48 * r + t) = 5) (hfd : fd d = 1) (hph : ph h = 1) (hkp : kp d = -1) (hbp : bp h = -1) (hxb : xb = fb d) (hgk : gk h = 0) (hfv : fv d = (gv h).toInt64) : ∃ u' v' q, q < 3010 * (300 - st) + (3007 + s) ∧ bl_RR L q u' v' ∧ (∀ post : SX → Prop, post u' → wpX_resumeFrame post (dl, lr, lc, (nI st), (nI (d + 1)), (nI cl), (nI sc), 1, xa, xs, xb, xg, 0, kX, vX, df, pr, sp, pl, th, fc, fs, fb, fd, fv, fe, kp, kv, cc, cs, ss, sv, so)) ∧ (∀ post : SY → Prop, post v' → wpY_give post ((nI sc), (nI cl), (nI (h + 1)), xb, (nI st), 0, ya, ys, yk, yv, yc, yt, rk, rv, kY, nY, en, ln, pr, sp, pk, pv, th, ss, po, so, cy, cb, cs, gt, ph, ge, gk, gv, bp, ok, ov, ob)) := by
  have K := C.1
  have p240 := bl_pX K hr ht
  have q240 := bl_pY K hr ht
  have kq := (bl_kY K hr ht).1
  have nq := (bl_kY K hr ht).2
  have tk := K.2.2 _ p240
  have R := C.2.1 r hr (by omega)
  have l48 := K.1 r hr
  have i240 : vp_in (nI (48 * r + t)) 240 := vp_in_nI p240 (by decide)
  have j240 : vp_in (nI (bl_yb r + t)) 240 := vp_in_nI q240 (by decide)
  have cp : (nI (48 * r + t)).toNatClampNeg = 48 * r + t := nI_clamp (by omega)
  have cq : (nI (bl_yb r + t)).toNatClampNeg = bl_yb r + t := nI_clamp (by omega)
  have hh := bl_St_le _ _ _ _ S
  have d3 : d < 300 := by omega
  have h3 : h < 320 := by omega
  have cd : (nI d).toNatClampNeg = d := nI_clamp (by omega)
  have ch : (nI h).toNatClampNeg = h := nI_clamp (by omega)
  have i3 : vp_in (nI d) 300 := vp_in_nI d3 (by decide)
  have j3 : vp_in (nI h) 320 := vp_in_nI h3 (by decide)
  have cl3 : cl < 1000 := by omega
  subst hxb
  refine ⟨(dl, lr, lc, (nI st), (nI (d + 1)), (nI cl), (nI sc), 2, xa, xs, (fb d), xg, 2, kX, vX, df, pr, sp, pl, th, fc, fs, fb, (upd fd d 2), fv, fe, kp, kv, cc, cs, ss, sv, so), ((nI sc), (nI cl), (nI h), (fb d), (nI st), 2, ya, ys, yk, yv, 2, (-1), rk, rv, kY, nY, en, ln, pr, sp, pk, pv, th, ss, po, so, cy, cb, cs, gt, (upd ph h 2), ge, gk, gv, bp, ok, ov, ob), _, ?_, bl_mkN (s := 1 + s) C (by omega) hcl hst (by omega) So Co P V (Or.inr ⟨d, s, rfl, rfl, ⟨r, t, hr, ht, hfc, Or.inl hk, hkp, rfl⟩, bl_St_cg (Nat.le_refl _) (Nat.le_refl _) d h _ s (fun i hi => by simp only [bl_x, upd, vp_updL, if_neg (show ¬ i = d by omega)]) (fun i hi => by simp only [bl_y, upd, if_neg (show ¬ i = h by omega)]) S⟩) (Or.inl ⟨2, by omega, by omega, rfl, rfl, rfl⟩) rfl, fun post hp => ?_, fun post hp => ?_⟩
  · omega
  · refine nm_r (nI_pred d) ⟨i3, nm_r (e' := nI (48 * r + t)) (by rw [cd, hfc]) ⟨i3, i3, nm_r (e' := upd fd d 2) (by rw [cd, hfd]; rfl) ⟨i240, nm_r (e' := 5) (by rw [cp, hk]) (br_f (by decide) (br_f (by decide) (br_f (by decide) (br_f (by decide) (br_f (by decide) (br_t rfl (⟨i3, br_f (by rw [cd, pk_us]; decide) ⟨i3, br_f (by rw [cd, pk_us]; decide) ⟨i3, ?_⟩⟩⟩)))))))⟩⟩⟩
    rw [cd, hfv]
    exact br_t (bl_lt_int _) (br_t rfl hp)
  · exact nm_r (nI_pred h) ⟨j3, nm_r (e' := nI (bl_yb r + t)) (by rw [ch, hgt]) ⟨j240, nm_r (e' := 5) (by rw [cq, kq, hk]) ⟨j240, nm_r (e' := vX (48 * r + t)) (by rw [cq, nq]) ⟨j3, nm_r (e' := 1) (by rw [ch, hph]) ⟨j3, j3, nm_r (e' := upd ph h 2) (by rw [ch, hph]; rfl) (br_t rfl (br_f (by decide) (br_t rfl (br_t rfl (br_t rfl (br_t rfl (br_t rfl (br_t rfl (br_t rfl (⟨j3, nm_e ⟨j3, br_f (by rw [ch, hgk]; decide) (nm_r (nI_pred h) hp)⟩⟩))))))))))⟩⟩⟩⟩⟩
section
variable {n r2 t2 : Nat}
theorem bl_G_call (C : bl_Cf L dl kX vX df pr sp kY nY en ln) (hcl : cl ≤ st) (hst : st ≤ 300) (So : bl_So sp ss so po sc) (Co : bl_Co kX vX L cc cs cy cb sc cl) (P : bl_Po cl pl pk pv) (V : bl_Vo cl sc sv pk pv) (hd : d + 1 ≤ st) (hw : 3001 * sc + (3007 + s) ≤ 3010 * st) (S : bl_St kX vX L sc cl (bl_x fc fs fb fd fv fe kp kv) (bl_y gt ph ge gk gv bp ok ov ob) d h (fb d) s) (hg : bl_vg cl xg yk yv) (hr : r < 5) (ht : t < L r) (hfc : fc d = nI (48 * r + t)) (hgt : gt h = nI (bl_yb r + t)) (hge : fs d = ge h) (hfs : bl_sc sc (fs d)) (hob : fb d = ob h) (hk : kX (48 * r + t) = 5) (hfd : fd d = 1) (hph : ph h = 1) (hkp : kp d = -1) (hbp : bp h = -1) (hxb : xb = fb d) (hn : n < cl) (hgk : gk h = 1) (hgv : gv h = nI n) (hfv : fv d = 20000000000 + lN n) : ∃ u' v' q, q < 3010 * (300 - st) + (3007 + s) ∧ bl_RR L q u' v' ∧ (∀ post : SX → Prop, post u' → wpX_resumeFrame post (dl, lr, lc, (nI st), (nI (d + 1)), (nI cl), (nI sc), 1, xa, xs, xb, xg, 0, kX, vX, df, pr, sp, pl, th, fc, fs, fb, fd, fv, fe, kp, kv, cc, cs, ss, sv, so)) ∧ (∀ post : SY → Prop, post v' → wpY_give post ((nI sc), (nI cl), (nI (h + 1)), xb, (nI st), 0, ya, ys, yk, yv, yc, yt, rk, rv, kY, nY, en, ln, pr, sp, pk, pv, th, ss, po, so, cy, cb, cs, gt, ph, ge, gk, gv, bp, ok, ov, ob)) := by
  have K := C.1
  have p240 := bl_pX K hr ht
  have q240 := bl_pY K hr ht
  have kq := (bl_kY K hr ht).1
  have nq := (bl_kY K hr ht).2
  have tk := K.2.2 _ p240
  have R := C.2.1 r hr (by omega)
  have l48 := K.1 r hr
  have i240 : vp_in (nI (48 * r + t)) 240 := vp_in_nI p240 (by decide)
  have j240 : vp_in (nI (bl_yb r + t)) 240 := vp_in_nI q240 (by decide)
  have cp : (nI (48 * r + t)).toNatClampNeg = 48 * r + t := nI_clamp (by omega)
  have cq : (nI (bl_yb r + t)).toNatClampNeg = bl_yb r + t := nI_clamp (by omega)
  have hh := bl_St_le _ _ _ _ S
  have d3 : d < 300 := by omega
  have h3 : h < 320 := by omega
  have cd : (nI d).toNatClampNeg = d := nI_clamp (by omega)
  have ch : (nI h).toNatClampNeg = h := nI_clamp (by omega)
  have i3 : vp_in (nI d) 300 := vp_in_nI d3 (by decide)
  have j3 : vp_in (nI h) 320 := vp_in_nI h3 (by decide)
  have cl3 : cl < 1000 := by omega
  obtain ⟨b, hb, eb⟩ := bl_St_b K _ _ _ _ S
  rw [eb] at hxb
  subst hxb
  obtain ⟨hcs, r2, t2, hr2, ht2, hcc, hk2, hcy, hcb⟩ := Co n hn
  have x2 := bl_pX K hr2 ht2
  have tk2 := K.2.2 _ x2
  have t21 := bl_p0 (C.2.1 r2 hr2 (by omega)) ht2 (by rw [hk2]; decide)
  obtain ⟨j, hj, ej⟩ := bl_tk8 tk2 (by rw [hk2]; decide)
  have cn : (nI n).toNatClampNeg = n := nI_clamp (by omega)
  have n3 : vp_in (nI n) 300 := vp_in_nI (by omega) (by decide)
  have n31 : vp_in (nI n) 310 := vp_in_nI (by omega) (by decide)
  obtain ⟨pl', pk', pv', ss', sv', so', po', kp', kv', bp', ok', ov', sc', i, So', P', V', s1, s2, hsi, hbd, hkk, hoo, hX, hY⟩ := bl_bind (dl := dl) (lr := lr) (lc := lc) (xst := nI st) (xcl := nI cl) (xm := 1) (xa := xa) (xs := xs) (xg := xg) (xe := 0) (kX := kX) (vX := vX) (df := df) (pr := pr) (sp := sp) (pl := pl) (th := th) (fc := fc) (fs := fs) (fb := fb) (fd := upd fd d 2) (fv := fv) (fe := fe) (kp := kp) (kv := kv) (cc := cc) (cs := cs) (ss := ss) (sv := sv) (so := so) (ycl := nI cl) (yw := nI (h + 1)) (ym := 0) (ya := ya) (ys := ys) (yk := yk) (yv := yv) (yc := yc) (yt := yt) (rk := rk) (rv := rv) (kY := kY) (nY := nY) (en := en) (ln := ln) (pk := pk) (pv := pv) (po := po) (cy := cy) (cb := cb) (gt := gt) (ph := upd ph h 2) (ge := ge) (gk := gk) (gv := gv) (bp := bp) (ok := ok) (ov := ov) (ob := ob) (d := d) (w := h) (j := j) (b := b) (o := cs n) (tk := nI (bl_yb r2 + (t2 + 1))) So P V (by omega) d3 h3 hj hb (hcs) hg hkp hbp
  refine ⟨(dl, lr, lc, (nI st), (nI (d + 1)), (nI cl), (nI sc'), 0, (nI (48 * r2 + (t2 + 1))), i, (nI b), xg, 0, kX, vX, df, pr, sp, pl', th, fc, fs, fb, (upd fd d 2), fv, fe, kp', kv', cc, cs, ss', sv', so'), ((nI sc'), (nI cl), (nI (h + 1)), (nI b), (nI st), 1, (nI (bl_yb r2 + (t2 + 1))), i, yk, yv, yc, yt, rk, rv, kY, nY, en, ln, pr, sp, pk', pv', th, ss', po', so', cy, cb, cs, gt, (upd ph h 2), ge, gk, gv, bp', ok', ov', ob), _, ?_, bl_mkE (s := 4 + s) C (by omega) hcl hst (by omega) So' (bl_Co_up s1 Co) P' V' ?_ hsi hr2 t21 rfl, fun post hp => ?_, fun post hp => ?_⟩
  · omega
  · exact bl_St_mk (r := r) (t := t) (e := 2) hr ht hfc hgt hge (bl_sc_up s1 hfs) hob pk_us (by rw [hk]; decide) (by rw [hk, eb]; rfl) (Or.inr (Or.inr (Or.inr (Or.inl ⟨rfl, pk_us, hk, hbd⟩)))) (bl_St_cg s1 (Nat.le_refl _) d h _ s (fun i hi => by simp only [bl_x, upd, vp_updL, if_neg (show ¬ i = d by omega), (hkk i (by omega)).1, (hkk i (by omega)).2]) (fun i hi => by simp only [bl_y, upd, if_neg (show ¬ i = h by omega), (hoo i (by omega)).1, (hoo i (by omega)).2.1, (hoo i (by omega)).2.2]) S)
  · refine nm_r (nI_pred d) ⟨i3, nm_r (e' := nI (48 * r + t)) (by rw [cd, hfc]) ⟨i3, i3, nm_r (e' := upd fd d 2) (by rw [cd, hfd]; rfl) ⟨i240, nm_r (e' := 5) (by rw [cp, hk]) (br_f (by decide) (br_f (by decide) (br_f (by decide) (br_f (by decide) (br_f (by decide) (br_t rfl (⟨i3, br_f (by rw [cd, pk_us]; decide) ⟨i3, br_f (by rw [cd, pk_us]; decide) ⟨i3, ?_⟩⟩⟩)))))))⟩⟩⟩
    rw [cd, hfv]
    refine br_f (bl_nlt_cl (by omega)) (br_f (by decide) ⟨i3, nm_r (e' := nI n) (bl_cl_sub n) ⟨n3, nm_r (e' := nI (48 * r2 + t2)) (by rw [cn, hcc]) ⟨vp_in_nI x2 (by decide), n3, ?_⟩⟩⟩)
    rw [nI_clamp (n := 48 * r2 + t2) (by omega), cn, ej]
    rw [show nI (48 * r2 + (t2 + 1)) = nI (48 * r2 + t2) + 1 from (nI_1 _).symm] at hp
    exact hX _ hp
  · refine nm_r (nI_pred h) ⟨j3, nm_r (e' := nI (bl_yb r + t)) (by rw [ch, hgt]) ⟨j240, nm_r (e' := 5) (by rw [cq, kq, hk]) ⟨j240, nm_r (e' := vX (48 * r + t)) (by rw [cq, nq]) ⟨j3, nm_r (e' := 1) (by rw [ch, hph]) ⟨j3, j3, nm_r (e' := upd ph h 2) (by rw [ch, hph]; rfl) (br_t rfl (br_f (by decide) (br_t rfl (br_t rfl (br_t rfl (br_t rfl (br_t rfl (br_t rfl (br_t rfl (⟨j3, nm_r (e' := nI n) (by rw [ch, hgv]) ⟨j3, br_t (by rw [ch]; exact hgk) ⟨n31, n31, n31, ?_⟩⟩⟩))))))))))⟩⟩⟩⟩⟩
    rw [cn, hcy, ej, hcb]
    exact hY _ hp
end
theorem bl_G_sum9 (C : bl_Cf L dl kX vX df pr sp kY nY en ln) (hcl : cl ≤ st) (hst : st ≤ 300) (So : bl_So sp ss so po sc) (Co : bl_Co kX vX L cc cs cy cb sc cl) (P : bl_Po cl pl pk pv) (V : bl_Vo cl sc sv pk pv) (hd : d + 1 ≤ st) (hw : 3001 * sc + (6 + s) ≤ 3010 * st) (S : bl_St kX vX L sc cl (bl_x fc fs fb fd fv fe kp kv) (bl_y gt ph ge gk gv bp ok ov ob) d h (fb d) s) (hg : bl_vg cl xg yk yv) (hr : r < 5) (ht : t < L r) (hfc : fc d = nI (48 * r + t)) (hgt : gt h = nI (bl_yb r + t)) (hge : fs d = ge h) (hfs : bl_sc sc (fs d)) (hob : fb d = ob h) (hk : kX (48 * r + t) = 9) (hfd : fd d = 1) (hph : ph h = 1) (hkp : kp d = -1) (hbp : bp h = -1) (hxb : xb = fb d) (hv : bl_vg cl (fv d) (gk h) (gv h)) : ∃ u' v' q, q < 3010 * (300 - st) + (6 + s) ∧ bl_RR L q u' v' ∧ (∀ post : SX → Prop, post u' → wpX_resumeFrame post (dl, lr, lc, (nI st), (nI (d + 1)), (nI cl), (nI sc), 1, xa, xs, xb, xg, 0, kX, vX, df, pr, sp, pl, th, fc, fs, fb, fd, fv, fe, kp, kv, cc, cs, ss, sv, so)) ∧ (∀ post : SY → Prop, post v' → wpY_give post ((nI sc), (nI cl), (nI (h + 1)), xb, (nI st), 0, ya, ys, yk, yv, yc, yt, rk, rv, kY, nY, en, ln, pr, sp, pk, pv, th, ss, po, so, cy, cb, cs, gt, ph, ge, gk, gv, bp, ok, ov, ob)) := by
  have K := C.1
  have p240 := bl_pX K hr ht
  have q240 := bl_pY K hr ht
  have kq := (bl_kY K hr ht).1
  have nq := (bl_kY K hr ht).2
  have tk := K.2.2 _ p240
  have R := C.2.1 r hr (by omega)
  have l48 := K.1 r hr
  have i240 : vp_in (nI (48 * r + t)) 240 := vp_in_nI p240 (by decide)
  have j240 : vp_in (nI (bl_yb r + t)) 240 := vp_in_nI q240 (by decide)
  have cp : (nI (48 * r + t)).toNatClampNeg = 48 * r + t := nI_clamp (by omega)
  have cq : (nI (bl_yb r + t)).toNatClampNeg = bl_yb r + t := nI_clamp (by omega)
  have hh := bl_St_le _ _ _ _ S
  have d3 : d < 300 := by omega
  have h3 : h < 320 := by omega
  have cd : (nI d).toNatClampNeg = d := nI_clamp (by omega)
  have ch : (nI h).toNatClampNeg = h := nI_clamp (by omega)
  have i3 : vp_in (nI d) 300 := vp_in_nI d3 (by decide)
  have j3 : vp_in (nI h) 320 := vp_in_nI h3 (by decide)
  have cl3 : cl < 1000 := by omega
  subst hxb
  have ty : (∀ post : SX → Prop, post (dl, lr, lc, (nI st), (nI (d + 1)), (nI cl), (nI sc), 2, xa, xs, (fb d), xg, 2, kX, vX, df, pr, sp, pl, th, fc, fs, fb, (upd fd d 2), fv, fe, kp, kv, cc, cs, ss, sv, so) → wpX_resumeFrame post (dl, lr, lc, (nI st), (nI (d + 1)), (nI cl), (nI sc), 1, xa, xs, (fb d), xg, 0, kX, vX, df, pr, sp, pl, th, fc, fs, fb, fd, fv, fe, kp, kv, cc, cs, ss, sv, so)) → (∀ post : SY → Prop, post ((nI sc), (nI cl), (nI h), (fb d), (nI st), 2, ya, ys, yk, yv, 2, (-1), rk, rv, kY, nY, en, ln, pr, sp, pk, pv, th, ss, po, so, cy, cb, cs, gt, (upd ph h 2), ge, gk, gv, bp, ok, ov, ob) → wpY_give post ((nI sc), (nI cl), (nI (h + 1)), (fb d), (nI st), 0, ya, ys, yk, yv, yc, yt, rk, rv, kY, nY, en, ln, pr, sp, pk, pv, th, ss, po, so, cy, cb, cs, gt, ph, ge, gk, gv, bp, ok, ov, ob)) → ∃ u' v' q, q < 3010 * (300 - st) + (6 + s) ∧ bl_RR L q u' v' ∧ (∀ post : SX → Prop, post u' → wpX_resumeFrame post (dl, lr, lc, (nI st), (nI (d + 1)), (nI cl), (nI sc), 1, xa, xs, (fb d), xg, 0, kX, vX, df, pr, sp, pl, th, fc, fs, fb, fd, fv, fe, kp, kv, cc, cs, ss, sv, so)) ∧ (∀ post : SY → Prop, post v' → wpY_give post ((nI sc), (nI cl), (nI (h + 1)), (fb d), (nI st), 0, ya, ys, yk, yv, yc, yt, rk, rv, kY, nY, en, ln, pr, sp, pk, pv, th, ss, po, so, cy, cb, cs, gt, ph, ge, gk, gv, bp, ok, ov, ob)) := by
    intro hX hY
    exact ⟨_, _, _, by omega, bl_mkN (s := 1 + s) C (by omega) hcl hst (by omega) So Co P V (Or.inr ⟨d, s, rfl, rfl, ⟨r, t, hr, ht, hfc, Or.inr (Or.inr (Or.inl hk)), hkp, rfl⟩, bl_St_cg (Nat.le_refl _) (Nat.le_refl _) d h _ s (fun i hi => by simp only [bl_x, upd, vp_updL, if_neg (show ¬ i = d by omega)]) (fun i hi => by simp only [bl_y, upd, if_neg (show ¬ i = h by omega)]) S⟩) (Or.inl ⟨2, by omega, by omega, rfl, rfl, rfl⟩) rfl, hX, hY⟩
  rcases hv with ⟨hgk, hfv⟩ | ⟨hgk, n, hn, hgv, hfv⟩
  · rcases hg with ⟨hyk, hxg⟩ | ⟨hyk, n, hn, hyv, hxg⟩
    · subst hxg
      refine ⟨(dl, lr, lc, (nI st), (nI d), (nI cl), (nI sc), 1, xa, xs, (fb d), (gv h + yv).toInt64, 0, kX, vX, df, pr, sp, pl, th, fc, fs, fb, (upd fd d 2), fv, fe, kp, kv, cc, cs, ss, sv, so), ((nI sc), (nI cl), (nI h), (fb d), (nI st), 0, ya, ys, 0, (gv h + yv), yc, yt, rk, rv, kY, nY, en, ln, pr, sp, pk, pv, th, ss, po, so, cy, cb, cs, gt, (upd ph h 2), ge, gk, gv, bp, ok, ov, ob), _, ?_, bl_mkG (s := s) C (by omega) hcl hst (by omega) So Co P V (bl_St_cg (Nat.le_refl _) (Nat.le_refl _) d h _ s (fun i hi => by simp only [bl_x, upd, vp_updL, if_neg (show ¬ i = d by omega)]) (fun i hi => by simp only [bl_y, upd, if_neg (show ¬ i = h by omega)]) S) (Or.inl ⟨rfl, rfl⟩) rfl, fun post hp => ?_, fun post hp => ?_⟩
      · omega
      · refine nm_r (nI_pred d) ⟨i3, nm_r (e' := nI (48 * r + t)) (by rw [cd, hfc]) ⟨i3, i3, nm_r (e' := upd fd d 2) (by rw [cd, hfd]; rfl) ⟨i240, nm_r (e' := 9) (by rw [cp, hk]) (br_f (by decide) (br_f (by decide) (br_f (by decide) (br_f (by decide) (br_f (by decide) (br_f (by decide) (br_f (by decide) (br_f (by decide) (br_f (by decide) (br_t rfl (⟨i240, ⟨i3, br_f (by rw [cd, pk_us]; decide) ⟨i3, nm_r (e' := fv d) (by rw [cd]) ?_⟩⟩⟩)))))))))))⟩⟩⟩
        rw [hfv]
        refine br_t (bl_lt_int _) (br_t rfl (br_t (bl_lt_int _) (br_t rfl (bl_x_cl1 d3 hkp (br_f (by rw [cp, hk]; decide) (br_t (by rw [cp, hk]) ?_))))))
        rw [show gv h + yv = ((gv h).toInt64 + yv.toInt64).toInt32 from by rw [Int64.toInt32_add, Int32.toInt32_toInt64, Int32.toInt32_toInt64]] at hp
        exact hp
      · refine nm_r (nI_pred h) ⟨j3, nm_r (e' := nI (bl_yb r + t)) (by rw [ch, hgt]) ⟨j240, nm_r (e' := 9) (by rw [cq, kq, hk]) ⟨j240, nm_r (e' := vX (48 * r + t)) (by rw [cq, nq]) ⟨j3, nm_r (e' := 1) (by rw [ch, hph]) ⟨j3, j3, nm_r (e' := upd ph h 2) (by rw [ch, hph]; rfl) (br_f (by decide) (br_f (by decide) (br_f (by decide) (br_f (by decide) (br_t rfl (br_t rfl (br_t rfl (br_t rfl (br_t rfl (br_t rfl (br_f (by decide) (nm_r (nI_pred h) (bl_y_gb1 h3 hbp ⟨j3, nm_r (e' := fb d) (by rw [ch, hob]) (br_f (by decide) (br_f (by decide) (br_f (by decide) (br_f (by decide) (⟨j3, nm_r (e' := gv h) (by rw [ch]) ⟨j3, ?_⟩⟩)))))⟩)))))))))))))⟩⟩⟩⟩⟩
        rw [ch]
        exact br_t hgk (br_t hyk (br_t rfl hp))
    · refine ty (fun post hp => ?_) (fun post hp => ?_)
      · refine nm_r (nI_pred d) ⟨i3, nm_r (e' := nI (48 * r + t)) (by rw [cd, hfc]) ⟨i3, i3, nm_r (e' := upd fd d 2) (by rw [cd, hfd]; rfl) ⟨i240, nm_r (e' := 9) (by rw [cp, hk]) (br_f (by decide) (br_f (by decide) (br_f (by decide) (br_f (by decide) (br_f (by decide) (br_f (by decide) (br_f (by decide) (br_f (by decide) (br_f (by decide) (br_t rfl (⟨i240, ⟨i3, br_f (by rw [cd, pk_us]; decide) ⟨i3, nm_r (e' := fv d) (by rw [cd]) ?_⟩⟩⟩)))))))))))⟩⟩⟩
        rw [hfv]
        refine br_t (bl_lt_int _) (br_t rfl (br_f ?_ (br_f (by decide) hp)))
        rw [hxg]; exact bl_nlt_cl (by omega)
      · refine nm_r (nI_pred h) ⟨j3, nm_r (e' := nI (bl_yb r + t)) (by rw [ch, hgt]) ⟨j240, nm_r (e' := 9) (by rw [cq, kq, hk]) ⟨j240, nm_r (e' := vX (48 * r + t)) (by rw [cq, nq]) ⟨j3, nm_r (e' := 1) (by rw [ch, hph]) ⟨j3, j3, nm_r (e' := upd ph h 2) (by rw [ch, hph]; rfl) (br_f (by decide) (br_f (by decide) (br_f (by decide) (br_f (by decide) (br_t rfl (br_t rfl (br_t rfl (br_t rfl (br_t rfl (br_t rfl (br_f (by decide) (nm_r (nI_pred h) (bl_y_gb1 h3 hbp ⟨j3, nm_r (e' := fb d) (by rw [ch, hob]) (br_f (by decide) (br_f (by decide) (br_f (by decide) (br_f (by decide) (⟨j3, nm_r (e' := gv h) (by rw [ch]) ⟨j3, ?_⟩⟩)))))⟩)))))))))))))⟩⟩⟩⟩⟩
        rw [ch]
        exact br_t hgk (br_f (by rw [hyk]; decide) hp)
  · refine ty (fun post hp => ?_) (fun post hp => ?_)
    · refine nm_r (nI_pred d) ⟨i3, nm_r (e' := nI (48 * r + t)) (by rw [cd, hfc]) ⟨i3, i3, nm_r (e' := upd fd d 2) (by rw [cd, hfd]; rfl) ⟨i240, nm_r (e' := 9) (by rw [cp, hk]) (br_f (by decide) (br_f (by decide) (br_f (by decide) (br_f (by decide) (br_f (by decide) (br_f (by decide) (br_f (by decide) (br_f (by decide) (br_f (by decide) (br_t rfl (⟨i240, ⟨i3, br_f (by rw [cd, pk_us]; decide) ⟨i3, nm_r (e' := fv d) (by rw [cd]) ?_⟩⟩⟩)))))))))))⟩⟩⟩
      rw [hfv]
      exact br_f (bl_nlt_cl (by omega)) (br_f (by decide) hp)
    · refine nm_r (nI_pred h) ⟨j3, nm_r (e' := nI (bl_yb r + t)) (by rw [ch, hgt]) ⟨j240, nm_r (e' := 9) (by rw [cq, kq, hk]) ⟨j240, nm_r (e' := vX (48 * r + t)) (by rw [cq, nq]) ⟨j3, nm_r (e' := 1) (by rw [ch, hph]) ⟨j3, j3, nm_r (e' := upd ph h 2) (by rw [ch, hph]; rfl) (br_f (by decide) (br_f (by decide) (br_f (by decide) (br_f (by decide) (br_t rfl (br_t rfl (br_t rfl (br_t rfl (br_t rfl (br_t rfl (br_f (by decide) (nm_r (nI_pred h) (bl_y_gb1 h3 hbp ⟨j3, nm_r (e' := fb d) (by rw [ch, hob]) (br_f (by decide) (br_f (by decide) (br_f (by decide) (br_f (by decide) (⟨j3, nm_r (e' := gv h) (by rw [ch]) ⟨j3, ?_⟩⟩)))))⟩)))))))))))))⟩⟩⟩⟩⟩
      rw [ch]
      exact br_f (by rw [hgk]; decide) hp
theorem bl_G_sum10 (C : bl_Cf L dl kX vX df pr sp kY nY en ln) (hcl : cl ≤ st) (hst : st ≤ 300) (So : bl_So sp ss so po sc) (Co : bl_Co kX vX L cc cs cy cb sc cl) (P : bl_Po cl pl pk pv) (V : bl_Vo cl sc sv pk pv) (hd : d + 1 ≤ st) (hw : 3001 * sc + (6 + s) ≤ 3010 * st) (S : bl_St kX vX L sc cl (bl_x fc fs fb fd fv fe kp kv) (bl_y gt ph ge gk gv bp ok ov ob) d h (fb d) s) (hg : bl_vg cl xg yk yv) (hr : r < 5) (ht : t < L r) (hfc : fc d = nI (48 * r + t)) (hgt : gt h = nI (bl_yb r + t)) (hge : fs d = ge h) (hfs : bl_sc sc (fs d)) (hob : fb d = ob h) (hk : kX (48 * r + t) = 10) (hfd : fd d = 1) (hph : ph h = 1) (hkp : kp d = -1) (hbp : bp h = -1) (hxb : xb = fb d) (hv : bl_vg cl (fv d) (gk h) (gv h)) : ∃ u' v' q, q < 3010 * (300 - st) + (6 + s) ∧ bl_RR L q u' v' ∧ (∀ post : SX → Prop, post u' → wpX_resumeFrame post (dl, lr, lc, (nI st), (nI (d + 1)), (nI cl), (nI sc), 1, xa, xs, xb, xg, 0, kX, vX, df, pr, sp, pl, th, fc, fs, fb, fd, fv, fe, kp, kv, cc, cs, ss, sv, so)) ∧ (∀ post : SY → Prop, post v' → wpY_give post ((nI sc), (nI cl), (nI (h + 1)), xb, (nI st), 0, ya, ys, yk, yv, yc, yt, rk, rv, kY, nY, en, ln, pr, sp, pk, pv, th, ss, po, so, cy, cb, cs, gt, ph, ge, gk, gv, bp, ok, ov, ob)) := by
  have K := C.1
  have p240 := bl_pX K hr ht
  have q240 := bl_pY K hr ht
  have kq := (bl_kY K hr ht).1
  have nq := (bl_kY K hr ht).2
  have tk := K.2.2 _ p240
  have R := C.2.1 r hr (by omega)
  have l48 := K.1 r hr
  have i240 : vp_in (nI (48 * r + t)) 240 := vp_in_nI p240 (by decide)
  have j240 : vp_in (nI (bl_yb r + t)) 240 := vp_in_nI q240 (by decide)
  have cp : (nI (48 * r + t)).toNatClampNeg = 48 * r + t := nI_clamp (by omega)
  have cq : (nI (bl_yb r + t)).toNatClampNeg = bl_yb r + t := nI_clamp (by omega)
  have hh := bl_St_le _ _ _ _ S
  have d3 : d < 300 := by omega
  have h3 : h < 320 := by omega
  have cd : (nI d).toNatClampNeg = d := nI_clamp (by omega)
  have ch : (nI h).toNatClampNeg = h := nI_clamp (by omega)
  have i3 : vp_in (nI d) 300 := vp_in_nI d3 (by decide)
  have j3 : vp_in (nI h) 320 := vp_in_nI h3 (by decide)
  have cl3 : cl < 1000 := by omega
  subst hxb
  have ty : (∀ post : SX → Prop, post (dl, lr, lc, (nI st), (nI (d + 1)), (nI cl), (nI sc), 2, xa, xs, (fb d), xg, 2, kX, vX, df, pr, sp, pl, th, fc, fs, fb, (upd fd d 2), fv, fe, kp, kv, cc, cs, ss, sv, so) → wpX_resumeFrame post (dl, lr, lc, (nI st), (nI (d + 1)), (nI cl), (nI sc), 1, xa, xs, (fb d), xg, 0, kX, vX, df, pr, sp, pl, th, fc, fs, fb, fd, fv, fe, kp, kv, cc, cs, ss, sv, so)) → (∀ post : SY → Prop, post ((nI sc), (nI cl), (nI h), (fb d), (nI st), 2, ya, ys, yk, yv, 2, (-1), rk, rv, kY, nY, en, ln, pr, sp, pk, pv, th, ss, po, so, cy, cb, cs, gt, (upd ph h 2), ge, gk, gv, bp, ok, ov, ob) → wpY_give post ((nI sc), (nI cl), (nI (h + 1)), (fb d), (nI st), 0, ya, ys, yk, yv, yc, yt, rk, rv, kY, nY, en, ln, pr, sp, pk, pv, th, ss, po, so, cy, cb, cs, gt, ph, ge, gk, gv, bp, ok, ov, ob)) → ∃ u' v' q, q < 3010 * (300 - st) + (6 + s) ∧ bl_RR L q u' v' ∧ (∀ post : SX → Prop, post u' → wpX_resumeFrame post (dl, lr, lc, (nI st), (nI (d + 1)), (nI cl), (nI sc), 1, xa, xs, (fb d), xg, 0, kX, vX, df, pr, sp, pl, th, fc, fs, fb, fd, fv, fe, kp, kv, cc, cs, ss, sv, so)) ∧ (∀ post : SY → Prop, post v' → wpY_give post ((nI sc), (nI cl), (nI (h + 1)), (fb d), (nI st), 0, ya, ys, yk, yv, yc, yt, rk, rv, kY, nY, en, ln, pr, sp, pk, pv, th, ss, po, so, cy, cb, cs, gt, ph, ge, gk, gv, bp, ok, ov, ob)) := by
    intro hX hY
    exact ⟨_, _, _, by omega, bl_mkN (s := 1 + s) C (by omega) hcl hst (by omega) So Co P V (Or.inr ⟨d, s, rfl, rfl, ⟨r, t, hr, ht, hfc, Or.inr (Or.inr (Or.inr (Or.inl hk))), hkp, rfl⟩, bl_St_cg (Nat.le_refl _) (Nat.le_refl _) d h _ s (fun i hi => by simp only [bl_x, upd, vp_updL, if_neg (show ¬ i = d by omega)]) (fun i hi => by simp only [bl_y, upd, if_neg (show ¬ i = h by omega)]) S⟩) (Or.inl ⟨2, by omega, by omega, rfl, rfl, rfl⟩) rfl, hX, hY⟩
  rcases hv with ⟨hgk, hfv⟩ | ⟨hgk, n, hn, hgv, hfv⟩
  · rcases hg with ⟨hyk, hxg⟩ | ⟨hyk, n, hn, hyv, hxg⟩
    · subst hxg
      refine ⟨(dl, lr, lc, (nI st), (nI d), (nI cl), (nI sc), 1, xa, xs, (fb d), (gv h - yv).toInt64, 0, kX, vX, df, pr, sp, pl, th, fc, fs, fb, (upd fd d 2), fv, fe, kp, kv, cc, cs, ss, sv, so), ((nI sc), (nI cl), (nI h), (fb d), (nI st), 0, ya, ys, 0, (gv h - yv), yc, yt, rk, rv, kY, nY, en, ln, pr, sp, pk, pv, th, ss, po, so, cy, cb, cs, gt, (upd ph h 2), ge, gk, gv, bp, ok, ov, ob), _, ?_, bl_mkG (s := s) C (by omega) hcl hst (by omega) So Co P V (bl_St_cg (Nat.le_refl _) (Nat.le_refl _) d h _ s (fun i hi => by simp only [bl_x, upd, vp_updL, if_neg (show ¬ i = d by omega)]) (fun i hi => by simp only [bl_y, upd, if_neg (show ¬ i = h by omega)]) S) (Or.inl ⟨rfl, rfl⟩) rfl, fun post hp => ?_, fun post hp => ?_⟩
      · omega
      · refine nm_r (nI_pred d) ⟨i3, nm_r (e' := nI (48 * r + t)) (by rw [cd, hfc]) ⟨i3, i3, nm_r (e' := upd fd d 2) (by rw [cd, hfd]; rfl) ⟨i240, nm_r (e' := 10) (by rw [cp, hk]) (br_f (by decide) (br_f (by decide) (br_f (by decide) (br_f (by decide) (br_f (by decide) (br_f (by decide) (br_f (by decide) (br_f (by decide) (br_f (by decide) (br_f (by decide) (br_t rfl (⟨i240, ⟨i3, br_f (by rw [cd, pk_us]; decide) ⟨i3, nm_r (e' := fv d) (by rw [cd]) ?_⟩⟩⟩))))))))))))⟩⟩⟩
        rw [hfv]
        refine br_t (bl_lt_int _) (br_t rfl (br_t (bl_lt_int _) (br_t rfl (bl_x_cl1 d3 hkp (br_f (by rw [cp, hk]; decide) (br_f (by rw [cp, hk]; decide) ?_))))))
        rw [show gv h - yv = ((gv h).toInt64 - yv.toInt64).toInt32 from by rw [Int64.toInt32_sub, Int32.toInt32_toInt64, Int32.toInt32_toInt64]] at hp
        exact hp
      · refine nm_r (nI_pred h) ⟨j3, nm_r (e' := nI (bl_yb r + t)) (by rw [ch, hgt]) ⟨j240, nm_r (e' := 10) (by rw [cq, kq, hk]) ⟨j240, nm_r (e' := vX (48 * r + t)) (by rw [cq, nq]) ⟨j3, nm_r (e' := 1) (by rw [ch, hph]) ⟨j3, j3, nm_r (e' := upd ph h 2) (by rw [ch, hph]; rfl) (br_f (by decide) (br_f (by decide) (br_f (by decide) (br_f (by decide) (br_t rfl (br_t rfl (br_t rfl (br_t rfl (br_t rfl (br_t rfl (br_f (by decide) (nm_r (nI_pred h) (bl_y_gb1 h3 hbp ⟨j3, nm_r (e' := fb d) (by rw [ch, hob]) (br_f (by decide) (br_f (by decide) (br_f (by decide) (br_f (by decide) (⟨j3, nm_r (e' := gv h) (by rw [ch]) ⟨j3, ?_⟩⟩)))))⟩)))))))))))))⟩⟩⟩⟩⟩
        rw [ch]
        exact br_t hgk (br_t hyk (br_f (by decide) (br_f (by decide) hp)))
    · refine ty (fun post hp => ?_) (fun post hp => ?_)
      · refine nm_r (nI_pred d) ⟨i3, nm_r (e' := nI (48 * r + t)) (by rw [cd, hfc]) ⟨i3, i3, nm_r (e' := upd fd d 2) (by rw [cd, hfd]; rfl) ⟨i240, nm_r (e' := 10) (by rw [cp, hk]) (br_f (by decide) (br_f (by decide) (br_f (by decide) (br_f (by decide) (br_f (by decide) (br_f (by decide) (br_f (by decide) (br_f (by decide) (br_f (by decide) (br_f (by decide) (br_t rfl (⟨i240, ⟨i3, br_f (by rw [cd, pk_us]; decide) ⟨i3, nm_r (e' := fv d) (by rw [cd]) ?_⟩⟩⟩))))))))))))⟩⟩⟩
        rw [hfv]
        refine br_t (bl_lt_int _) (br_t rfl (br_f ?_ (br_f (by decide) hp)))
        rw [hxg]; exact bl_nlt_cl (by omega)
      · refine nm_r (nI_pred h) ⟨j3, nm_r (e' := nI (bl_yb r + t)) (by rw [ch, hgt]) ⟨j240, nm_r (e' := 10) (by rw [cq, kq, hk]) ⟨j240, nm_r (e' := vX (48 * r + t)) (by rw [cq, nq]) ⟨j3, nm_r (e' := 1) (by rw [ch, hph]) ⟨j3, j3, nm_r (e' := upd ph h 2) (by rw [ch, hph]; rfl) (br_f (by decide) (br_f (by decide) (br_f (by decide) (br_f (by decide) (br_t rfl (br_t rfl (br_t rfl (br_t rfl (br_t rfl (br_t rfl (br_f (by decide) (nm_r (nI_pred h) (bl_y_gb1 h3 hbp ⟨j3, nm_r (e' := fb d) (by rw [ch, hob]) (br_f (by decide) (br_f (by decide) (br_f (by decide) (br_f (by decide) (⟨j3, nm_r (e' := gv h) (by rw [ch]) ⟨j3, ?_⟩⟩)))))⟩)))))))))))))⟩⟩⟩⟩⟩
        rw [ch]
        exact br_t hgk (br_f (by rw [hyk]; decide) hp)
  · refine ty (fun post hp => ?_) (fun post hp => ?_)
    · refine nm_r (nI_pred d) ⟨i3, nm_r (e' := nI (48 * r + t)) (by rw [cd, hfc]) ⟨i3, i3, nm_r (e' := upd fd d 2) (by rw [cd, hfd]; rfl) ⟨i240, nm_r (e' := 10) (by rw [cp, hk]) (br_f (by decide) (br_f (by decide) (br_f (by decide) (br_f (by decide) (br_f (by decide) (br_f (by decide) (br_f (by decide) (br_f (by decide) (br_f (by decide) (br_f (by decide) (br_t rfl (⟨i240, ⟨i3, br_f (by rw [cd, pk_us]; decide) ⟨i3, nm_r (e' := fv d) (by rw [cd]) ?_⟩⟩⟩))))))))))))⟩⟩⟩
      rw [hfv]
      exact br_f (bl_nlt_cl (by omega)) (br_f (by decide) hp)
    · refine nm_r (nI_pred h) ⟨j3, nm_r (e' := nI (bl_yb r + t)) (by rw [ch, hgt]) ⟨j240, nm_r (e' := 10) (by rw [cq, kq, hk]) ⟨j240, nm_r (e' := vX (48 * r + t)) (by rw [cq, nq]) ⟨j3, nm_r (e' := 1) (by rw [ch, hph]) ⟨j3, j3, nm_r (e' := upd ph h 2) (by rw [ch, hph]; rfl) (br_f (by decide) (br_f (by decide) (br_f (by decide) (br_f (by decide) (br_t rfl (br_t rfl (br_t rfl (br_t rfl (br_t rfl (br_t rfl (br_f (by decide) (nm_r (nI_pred h) (bl_y_gb1 h3 hbp ⟨j3, nm_r (e' := fb d) (by rw [ch, hob]) (br_f (by decide) (br_f (by decide) (br_f (by decide) (br_f (by decide) (⟨j3, nm_r (e' := gv h) (by rw [ch]) ⟨j3, ?_⟩⟩)))))⟩)))))))))))))⟩⟩⟩⟩⟩
      rw [ch]
      exact br_f (by rw [hgk]; decide) hp
theorem bl_G_sum11 (C : bl_Cf L dl kX vX df pr sp kY nY en ln) (hcl : cl ≤ st) (hst : st ≤ 300) (So : bl_So sp ss so po sc) (Co : bl_Co kX vX L cc cs cy cb sc cl) (P : bl_Po cl pl pk pv) (V : bl_Vo cl sc sv pk pv) (hd : d + 1 ≤ st) (hw : 3001 * sc + (6 + s) ≤ 3010 * st) (S : bl_St kX vX L sc cl (bl_x fc fs fb fd fv fe kp kv) (bl_y gt ph ge gk gv bp ok ov ob) d h (fb d) s) (hg : bl_vg cl xg yk yv) (hr : r < 5) (ht : t < L r) (hfc : fc d = nI (48 * r + t)) (hgt : gt h = nI (bl_yb r + t)) (hge : fs d = ge h) (hfs : bl_sc sc (fs d)) (hob : fb d = ob h) (hk : kX (48 * r + t) = 11) (hfd : fd d = 1) (hph : ph h = 1) (hkp : kp d = -1) (hbp : bp h = -1) (hxb : xb = fb d) (hv : bl_vg cl (fv d) (gk h) (gv h)) : ∃ u' v' q, q < 3010 * (300 - st) + (6 + s) ∧ bl_RR L q u' v' ∧ (∀ post : SX → Prop, post u' → wpX_resumeFrame post (dl, lr, lc, (nI st), (nI (d + 1)), (nI cl), (nI sc), 1, xa, xs, xb, xg, 0, kX, vX, df, pr, sp, pl, th, fc, fs, fb, fd, fv, fe, kp, kv, cc, cs, ss, sv, so)) ∧ (∀ post : SY → Prop, post v' → wpY_give post ((nI sc), (nI cl), (nI (h + 1)), xb, (nI st), 0, ya, ys, yk, yv, yc, yt, rk, rv, kY, nY, en, ln, pr, sp, pk, pv, th, ss, po, so, cy, cb, cs, gt, ph, ge, gk, gv, bp, ok, ov, ob)) := by
  have K := C.1
  have p240 := bl_pX K hr ht
  have q240 := bl_pY K hr ht
  have kq := (bl_kY K hr ht).1
  have nq := (bl_kY K hr ht).2
  have tk := K.2.2 _ p240
  have R := C.2.1 r hr (by omega)
  have l48 := K.1 r hr
  have i240 : vp_in (nI (48 * r + t)) 240 := vp_in_nI p240 (by decide)
  have j240 : vp_in (nI (bl_yb r + t)) 240 := vp_in_nI q240 (by decide)
  have cp : (nI (48 * r + t)).toNatClampNeg = 48 * r + t := nI_clamp (by omega)
  have cq : (nI (bl_yb r + t)).toNatClampNeg = bl_yb r + t := nI_clamp (by omega)
  have hh := bl_St_le _ _ _ _ S
  have d3 : d < 300 := by omega
  have h3 : h < 320 := by omega
  have cd : (nI d).toNatClampNeg = d := nI_clamp (by omega)
  have ch : (nI h).toNatClampNeg = h := nI_clamp (by omega)
  have i3 : vp_in (nI d) 300 := vp_in_nI d3 (by decide)
  have j3 : vp_in (nI h) 320 := vp_in_nI h3 (by decide)
  have cl3 : cl < 1000 := by omega
  subst hxb
  have ty : (∀ post : SX → Prop, post (dl, lr, lc, (nI st), (nI (d + 1)), (nI cl), (nI sc), 2, xa, xs, (fb d), xg, 2, kX, vX, df, pr, sp, pl, th, fc, fs, fb, (upd fd d 2), fv, fe, kp, kv, cc, cs, ss, sv, so) → wpX_resumeFrame post (dl, lr, lc, (nI st), (nI (d + 1)), (nI cl), (nI sc), 1, xa, xs, (fb d), xg, 0, kX, vX, df, pr, sp, pl, th, fc, fs, fb, fd, fv, fe, kp, kv, cc, cs, ss, sv, so)) → (∀ post : SY → Prop, post ((nI sc), (nI cl), (nI h), (fb d), (nI st), 2, ya, ys, yk, yv, 2, (-1), rk, rv, kY, nY, en, ln, pr, sp, pk, pv, th, ss, po, so, cy, cb, cs, gt, (upd ph h 2), ge, gk, gv, bp, ok, ov, ob) → wpY_give post ((nI sc), (nI cl), (nI (h + 1)), (fb d), (nI st), 0, ya, ys, yk, yv, yc, yt, rk, rv, kY, nY, en, ln, pr, sp, pk, pv, th, ss, po, so, cy, cb, cs, gt, ph, ge, gk, gv, bp, ok, ov, ob)) → ∃ u' v' q, q < 3010 * (300 - st) + (6 + s) ∧ bl_RR L q u' v' ∧ (∀ post : SX → Prop, post u' → wpX_resumeFrame post (dl, lr, lc, (nI st), (nI (d + 1)), (nI cl), (nI sc), 1, xa, xs, (fb d), xg, 0, kX, vX, df, pr, sp, pl, th, fc, fs, fb, fd, fv, fe, kp, kv, cc, cs, ss, sv, so)) ∧ (∀ post : SY → Prop, post v' → wpY_give post ((nI sc), (nI cl), (nI (h + 1)), (fb d), (nI st), 0, ya, ys, yk, yv, yc, yt, rk, rv, kY, nY, en, ln, pr, sp, pk, pv, th, ss, po, so, cy, cb, cs, gt, ph, ge, gk, gv, bp, ok, ov, ob)) := by
    intro hX hY
    exact ⟨_, _, _, by omega, bl_mkN (s := 1 + s) C (by omega) hcl hst (by omega) So Co P V (Or.inr ⟨d, s, rfl, rfl, ⟨r, t, hr, ht, hfc, Or.inr (Or.inr (Or.inr (Or.inr (Or.inl hk)))), hkp, rfl⟩, bl_St_cg (Nat.le_refl _) (Nat.le_refl _) d h _ s (fun i hi => by simp only [bl_x, upd, vp_updL, if_neg (show ¬ i = d by omega)]) (fun i hi => by simp only [bl_y, upd, if_neg (show ¬ i = h by omega)]) S⟩) (Or.inl ⟨2, by omega, by omega, rfl, rfl, rfl⟩) rfl, hX, hY⟩
  rcases hv with ⟨hgk, hfv⟩ | ⟨hgk, n, hn, hgv, hfv⟩
  · rcases hg with ⟨hyk, hxg⟩ | ⟨hyk, n, hn, hyv, hxg⟩
    · subst hxg
      refine ⟨(dl, lr, lc, (nI st), (nI d), (nI cl), (nI sc), 1, xa, xs, (fb d), (if yv ≤ gv h then (0 : Int32) else 1).toInt64, 0, kX, vX, df, pr, sp, pl, th, fc, fs, fb, (upd fd d 2), fv, fe, kp, kv, cc, cs, ss, sv, so), ((nI sc), (nI cl), (nI h), (fb d), (nI st), 0, ya, ys, 0, (if yv ≤ gv h then (0 : Int32) else 1), yc, yt, rk, rv, kY, nY, en, ln, pr, sp, pk, pv, th, ss, po, so, cy, cb, cs, gt, (upd ph h 2), ge, gk, gv, bp, ok, ov, ob), _, ?_, bl_mkG (s := s) C (by omega) hcl hst (by omega) So Co P V (bl_St_cg (Nat.le_refl _) (Nat.le_refl _) d h _ s (fun i hi => by simp only [bl_x, upd, vp_updL, if_neg (show ¬ i = d by omega)]) (fun i hi => by simp only [bl_y, upd, if_neg (show ¬ i = h by omega)]) S) (Or.inl ⟨rfl, rfl⟩) rfl, fun post hp => ?_, fun post hp => ?_⟩
      · omega
      · refine nm_r (nI_pred d) ⟨i3, nm_r (e' := nI (48 * r + t)) (by rw [cd, hfc]) ⟨i3, i3, nm_r (e' := upd fd d 2) (by rw [cd, hfd]; rfl) ⟨i240, nm_r (e' := 11) (by rw [cp, hk]) (br_f (by decide) (br_f (by decide) (br_f (by decide) (br_f (by decide) (br_f (by decide) (br_f (by decide) (br_f (by decide) (br_f (by decide) (br_f (by decide) (br_f (by decide) (br_f (by decide) (br_t rfl (⟨i240, ⟨i3, br_f (by rw [cd, pk_us]; decide) ⟨i3, nm_r (e' := fv d) (by rw [cd]) ?_⟩⟩⟩)))))))))))))⟩⟩⟩
        rw [hfv]
        refine br_t (bl_lt_int _) (br_t rfl (br_t (bl_lt_int _) (br_t rfl (bl_x_cl1 d3 hkp (br_t (by rw [cp, hk]) ?_)))))
        by_cases z : yv ≤ gv h
        · rw [if_pos z] at hp
          exact br_t (Int32.toInt64_le.mpr z) hp
        · rw [if_neg z] at hp
          exact br_f (fun q => z (Int32.toInt64_le.mp q)) hp
      · refine nm_r (nI_pred h) ⟨j3, nm_r (e' := nI (bl_yb r + t)) (by rw [ch, hgt]) ⟨j240, nm_r (e' := 11) (by rw [cq, kq, hk]) ⟨j240, nm_r (e' := vX (48 * r + t)) (by rw [cq, nq]) ⟨j3, nm_r (e' := 1) (by rw [ch, hph]) ⟨j3, j3, nm_r (e' := upd ph h 2) (by rw [ch, hph]; rfl) (br_f (by decide) (br_f (by decide) (br_f (by decide) (br_f (by decide) (br_t rfl (br_t rfl (br_t rfl (br_t rfl (br_t rfl (br_t rfl (br_f (by decide) (nm_r (nI_pred h) (bl_y_gb1 h3 hbp ⟨j3, nm_r (e' := fb d) (by rw [ch, hob]) (br_f (by decide) (br_f (by decide) (br_f (by decide) (br_f (by decide) (⟨j3, nm_r (e' := gv h) (by rw [ch]) ⟨j3, ?_⟩⟩)))))⟩)))))))))))))⟩⟩⟩⟩⟩
        rw [ch]
        refine br_t hgk (br_t hyk (br_f (by decide) (br_t rfl ?_)))
        by_cases z : yv ≤ gv h
        · rw [if_pos z] at hp; exact br_t z hp
        · rw [if_neg z] at hp; exact br_f z hp
    · refine ty (fun post hp => ?_) (fun post hp => ?_)
      · refine nm_r (nI_pred d) ⟨i3, nm_r (e' := nI (48 * r + t)) (by rw [cd, hfc]) ⟨i3, i3, nm_r (e' := upd fd d 2) (by rw [cd, hfd]; rfl) ⟨i240, nm_r (e' := 11) (by rw [cp, hk]) (br_f (by decide) (br_f (by decide) (br_f (by decide) (br_f (by decide) (br_f (by decide) (br_f (by decide) (br_f (by decide) (br_f (by decide) (br_f (by decide) (br_f (by decide) (br_f (by decide) (br_t rfl (⟨i240, ⟨i3, br_f (by rw [cd, pk_us]; decide) ⟨i3, nm_r (e' := fv d) (by rw [cd]) ?_⟩⟩⟩)))))))))))))⟩⟩⟩
        rw [hfv]
        refine br_t (bl_lt_int _) (br_t rfl (br_f ?_ (br_f (by decide) hp)))
        rw [hxg]; exact bl_nlt_cl (by omega)
      · refine nm_r (nI_pred h) ⟨j3, nm_r (e' := nI (bl_yb r + t)) (by rw [ch, hgt]) ⟨j240, nm_r (e' := 11) (by rw [cq, kq, hk]) ⟨j240, nm_r (e' := vX (48 * r + t)) (by rw [cq, nq]) ⟨j3, nm_r (e' := 1) (by rw [ch, hph]) ⟨j3, j3, nm_r (e' := upd ph h 2) (by rw [ch, hph]; rfl) (br_f (by decide) (br_f (by decide) (br_f (by decide) (br_f (by decide) (br_t rfl (br_t rfl (br_t rfl (br_t rfl (br_t rfl (br_t rfl (br_f (by decide) (nm_r (nI_pred h) (bl_y_gb1 h3 hbp ⟨j3, nm_r (e' := fb d) (by rw [ch, hob]) (br_f (by decide) (br_f (by decide) (br_f (by decide) (br_f (by decide) (⟨j3, nm_r (e' := gv h) (by rw [ch]) ⟨j3, ?_⟩⟩)))))⟩)))))))))))))⟩⟩⟩⟩⟩
        rw [ch]
        exact br_t hgk (br_f (by rw [hyk]; decide) hp)
  · refine ty (fun post hp => ?_) (fun post hp => ?_)
    · refine nm_r (nI_pred d) ⟨i3, nm_r (e' := nI (48 * r + t)) (by rw [cd, hfc]) ⟨i3, i3, nm_r (e' := upd fd d 2) (by rw [cd, hfd]; rfl) ⟨i240, nm_r (e' := 11) (by rw [cp, hk]) (br_f (by decide) (br_f (by decide) (br_f (by decide) (br_f (by decide) (br_f (by decide) (br_f (by decide) (br_f (by decide) (br_f (by decide) (br_f (by decide) (br_f (by decide) (br_f (by decide) (br_t rfl (⟨i240, ⟨i3, br_f (by rw [cd, pk_us]; decide) ⟨i3, nm_r (e' := fv d) (by rw [cd]) ?_⟩⟩⟩)))))))))))))⟩⟩⟩
      rw [hfv]
      exact br_f (bl_nlt_cl (by omega)) (br_f (by decide) hp)
    · refine nm_r (nI_pred h) ⟨j3, nm_r (e' := nI (bl_yb r + t)) (by rw [ch, hgt]) ⟨j240, nm_r (e' := 11) (by rw [cq, kq, hk]) ⟨j240, nm_r (e' := vX (48 * r + t)) (by rw [cq, nq]) ⟨j3, nm_r (e' := 1) (by rw [ch, hph]) ⟨j3, j3, nm_r (e' := upd ph h 2) (by rw [ch, hph]; rfl) (br_f (by decide) (br_f (by decide) (br_f (by decide) (br_f (by decide) (br_t rfl (br_t rfl (br_t rfl (br_t rfl (br_t rfl (br_t rfl (br_f (by decide) (nm_r (nI_pred h) (bl_y_gb1 h3 hbp ⟨j3, nm_r (e' := fb d) (by rw [ch, hob]) (br_f (by decide) (br_f (by decide) (br_f (by decide) (br_f (by decide) (⟨j3, nm_r (e' := gv h) (by rw [ch]) ⟨j3, ?_⟩⟩)))))⟩)))))))))))))⟩⟩⟩⟩⟩
      rw [ch]
      exact br_f (by rw [hgk]; decide) hp
end
end
section
/-! turns: a value is given to the frame on top (4) -/
section
variable {dl lc xst xd xcl xsc xm xa xs xb xe yen ycl yw ym ya ys yk yv yc yt rk rv : Int32}
variable {lr xg : Int64}
variable {kX vX df pr sp th fc fs fb fd fe kp cc cs ss so kY nY en ln pk pv po cy cb gt ph ge gk gv bp ok ov ob : Nat → Int32}
variable {pl fv kv sv : Nat → Int64}
variable {L : Nat → Nat} {q d h sc cl st s r t m m2 p j b w e : Nat}
theorem bl_G_throw (C : bl_Cf L dl kX vX df pr sp kY nY en ln) (hcl : cl ≤ st) (hst : st ≤ 300) (So : bl_So sp ss so po sc) (Co : bl_Co kX vX L cc cs cy cb sc cl) (P : bl_Po cl pl pk pv) (V : bl_Vo cl sc sv pk pv) (hd : d + 1 ≤ st) (hw : 3001 * sc + (3009 + s) ≤ 3010 * st) (S : bl_St kX vX L sc cl (bl_x fc fs fb fd fv fe kp kv) (bl_y gt ph ge gk gv bp ok ov ob) d h (fb d) s) (hg : bl_vg cl xg yk yv) (hr : r < 5) (ht : t < L r) (hfc : fc d = nI (48 * r + t)) (hgt : gt h = nI (bl_yb r + t)) (hge : fs d = ge h) (hfs : bl_sc sc (fs d)) (hob : fb d = ob h) (hk : kX (48 * r + t) = 13) (hfd : fd d = 0) (hph : ph h = 0) (hkp : kp d = -1) (hbp : bp h = -1) (hxb : xb = fb d) : ∃ u' v' q, q < 3010 * (300 - st) + (3009 + s) ∧ bl_RR L q u' v' ∧ (∀ post : SX → Prop, post u' → wpX_resumeFrame post (dl, lr, lc, (nI st), (nI (d + 1)), (nI cl), (nI sc), 1, xa, xs, xb, xg, 0, kX, vX, df, pr, sp, pl, th, fc, fs, fb, fd, fv, fe, kp, kv, cc, cs, ss, sv, so)) ∧ (∀ post : SY → Prop, post v' → wpY_give post ((nI sc), (nI cl), (nI (h + 1)), xb, (nI st), 0, ya, ys, yk, yv, yc, yt, rk, rv, kY, nY, en, ln, pr, sp, pk, pv, th, ss, po, so, cy, cb, cs, gt, ph, ge, gk, gv, bp, ok, ov, ob)) := by
  have K := C.1
  have p240 := bl_pX K hr ht
  have q240 := bl_pY K hr ht
  have kq := (bl_kY K hr ht).1
  have nq := (bl_kY K hr ht).2
  have tk := K.2.2 _ p240
  have R := C.2.1 r hr (by omega)
  have l48 := K.1 r hr
  have i240 : vp_in (nI (48 * r + t)) 240 := vp_in_nI p240 (by decide)
  have j240 : vp_in (nI (bl_yb r + t)) 240 := vp_in_nI q240 (by decide)
  have cp : (nI (48 * r + t)).toNatClampNeg = 48 * r + t := nI_clamp (by omega)
  have cq : (nI (bl_yb r + t)).toNatClampNeg = bl_yb r + t := nI_clamp (by omega)
  have hh := bl_St_le _ _ _ _ S
  have d3 : d < 300 := by omega
  have h3 : h < 320 := by omega
  have cd : (nI d).toNatClampNeg = d := nI_clamp (by omega)
  have ch : (nI h).toNatClampNeg = h := nI_clamp (by omega)
  have i3 : vp_in (nI d) 300 := vp_in_nI d3 (by decide)
  have j3 : vp_in (nI h) 320 := vp_in_nI h3 (by decide)
  have cl3 : cl < 1000 := by omega
  subst hxb
  obtain ⟨j, hj, ej⟩ := bl_tk4 tk (by rw [hk]; decide)
  have fcs := bl_St_fc K.1 _ _ _ _ S
  have gts := bl_St_gt K.1 _ _ _ _ S
  have hx : ∀ i, i < d + 1 → ∃ p, p < 240 ∧ fc i = nI p := by
    intro i hi
    by_cases c : i = d
    · subst c; exact ⟨48 * r + t, p240, hfc⟩
    · exact fcs i (by omega)
  have S1 : bl_St kX vX L sc cl (bl_x fc fs fb (upd fd d 1) fv fe kp kv) (bl_y gt (upd ph h 1) ge gk gv bp ok ov ob) d h (fb d) s := bl_St_cg (Nat.le_refl _) (Nat.le_refl _) d h _ s (fun i hi => by simp only [bl_x, upd, vp_updL, if_neg (show ¬ i = d by omega)]) (fun i hi => by simp only [bl_y, upd, if_neg (show ¬ i = h by omega)]) S
  have dn : bl_hc kX vX (bl_x fc fs fb (upd fd d 1) fv fe kp kv) (d + 1) j → bl_hc kX vX (bl_x fc fs fb (upd fd d 1) fv fe kp kv) d j := by
    intro z
    refine bl_hc_dn z (fun p p1 p2 p3 => ?_)
    have p2 : fc d = nI p := p2
    rw [hfc, nI_eq (by omega) (by omega)] at p2
    rw [← p2, hk] at p3
    exact absurd p3 (by decide)
  have hcy := bl_St_hc K j d h _ s S1
  by_cases z : bl_hc kX vX (bl_x fc fs fb (upd fd d 1) fv fe kp kv) d j
  · refine ⟨(dl, lr, lc, (nI st), (nI (d + 1)), (nI cl), (nI sc), 2, xa, xs, (fb d), xg, (nI (16 + j)), kX, vX, df, pr, sp, pl, th, fc, fs, fb, (upd fd d 1), fv, fe, kp, kv, cc, cs, ss, sv, so), ((nI sc), (nI cl), (nI h), (fb d), (nI st), 2, ya, ys, yk, yv, 0, (nI j), rk, rv, kY, nY, en, ln, pr, sp, pk, pv, th, ss, po, so, cy, cb, cs, gt, (upd ph h 1), ge, gk, gv, bp, ok, ov, ob), _, ?_, bl_mkN (s := 1 + s) C (by omega) hcl hst (by omega) So Co P V (Or.inr ⟨d, s, rfl, rfl, ⟨r, t, hr, ht, hfc, Or.inr (Or.inr (Or.inr (Or.inr (Or.inr hk)))), hkp, rfl⟩, bl_St_cg (Nat.le_refl _) (Nat.le_refl _) d h _ s (fun i hi => by simp only [bl_x, upd, vp_updL, if_neg (show ¬ i = d by omega)]) (fun i hi => by simp only [bl_y, upd, if_neg (show ¬ i = h by omega)]) S⟩) (Or.inr ⟨j, hj, rfl, rfl, rfl, bl_hc_up (by omega) z, hg⟩) rfl, fun post hp => ?_, fun post hp => ?_⟩
    · omega
    · refine nm_r (nI_pred d) ⟨i3, nm_r (e' := nI (48 * r + t)) (by rw [cd, hfc]) ⟨i3, i3, nm_r (e' := upd fd d 1) (by rw [cd, hfd]; rfl) ⟨i240, nm_r (e' := 13) (by rw [cp, hk]) (br_f (by decide) (br_f (by decide) (br_f (by decide) (br_f (by decide) (br_f (by decide) (br_f (by decide) (br_f (by decide) (br_f (by decide) (br_f (by decide) (br_f (by decide) (br_f (by decide) (br_f (by decide) (br_f (by decide) (br_t rfl (⟨i240, ?_⟩)))))))))))))))⟩⟩⟩
      rw [cp, ej]
      refine bl_x_hc hx (by omega) hj (fun _ => br_f (by decide) ?_) (fun n => absurd (bl_hc_up (by omega) z) n)
      rw [show (16 : Int32) + nI j = nI (16 + j) from nI_add 16 j]
      exact hp
    · refine nm_r (nI_pred h) ⟨j3, nm_r (e' := nI (bl_yb r + t)) (by rw [ch, hgt]) ⟨j240, nm_r (e' := 13) (by rw [cq, kq, hk]) ⟨j240, nm_r (e' := vX (48 * r + t)) (by rw [cq, nq]) ⟨j3, nm_r (e' := 0) (by rw [ch, hph]) ⟨j3, j3, nm_r (e' := upd ph h 1) (by rw [ch, hph]; rfl) (br_f (by decide) (br_f (by decide) (br_t (by decide) (br_t rfl (br_f (by decide) (br_t rfl (br_f (by decide) (br_f (by decide) (br_f (by decide) (br_f (by decide) (br_f (by decide) (br_f (by decide) (br_f (by decide) (br_f (by decide) (br_f (by decide) (br_f (by decide) (nm_r (nI_pred h) (bl_y_gb1 h3 hbp ⟨j3, nm_r (e' := fb d) (by rw [ch, hob]) (br_f (by decide) (br_f (by decide) (br_f (by decide) (br_t (by decide) (br_t rfl ?_)))))⟩))))))))))))))))))⟩⟩⟩⟩⟩
      rw [ej]
      exact bl_y_hu gts (by omega) hj (fun _ => hp) (fun n => absurd (hcy.mp z) n)
  · refine ⟨(dl, lr, lc, (nI st), (nI (d + 1)), (nI cl), (nI sc), 2, xa, xs, (fb d), xg, 3, kX, vX, df, pr, sp, pl, th, fc, fs, fb, (upd fd d 1), fv, fe, kp, kv, cc, cs, ss, sv, so), ((nI sc), (nI cl), (nI h), (fb d), (nI st), 2, ya, ys, yk, yv, 3, (-1), rk, rv, kY, nY, en, ln, pr, sp, pk, pv, th, ss, po, so, cy, cb, cs, gt, (upd ph h 1), ge, gk, gv, bp, ok, ov, ob), _, ?_, bl_mkN (s := 1 + s) C (by omega) hcl hst (by omega) So Co P V (Or.inr ⟨d, s, rfl, rfl, ⟨r, t, hr, ht, hfc, Or.inr (Or.inr (Or.inr (Or.inr (Or.inr hk)))), hkp, rfl⟩, bl_St_cg (Nat.le_refl _) (Nat.le_refl _) d h _ s (fun i hi => by simp only [bl_x, upd, vp_updL, if_neg (show ¬ i = d by omega)]) (fun i hi => by simp only [bl_y, upd, if_neg (show ¬ i = h by omega)]) S⟩) (Or.inl ⟨3, by omega, by omega, rfl, rfl, rfl⟩) rfl, fun post hp => ?_, fun post hp => ?_⟩
    · omega
    · refine nm_r (nI_pred d) ⟨i3, nm_r (e' := nI (48 * r + t)) (by rw [cd, hfc]) ⟨i3, i3, nm_r (e' := upd fd d 1) (by rw [cd, hfd]; rfl) ⟨i240, nm_r (e' := 13) (by rw [cp, hk]) (br_f (by decide) (br_f (by decide) (br_f (by decide) (br_f (by decide) (br_f (by decide) (br_f (by decide) (br_f (by decide) (br_f (by decide) (br_f (by decide) (br_f (by decide) (br_f (by decide) (br_f (by decide) (br_f (by decide) (br_t rfl (⟨i240, ?_⟩)))))))))))))))⟩⟩⟩
      rw [cp, ej]
      exact bl_x_hc hx (by omega) hj (fun y => absurd (dn y) z) (fun n => br_t rfl hp)
    · refine nm_r (nI_pred h) ⟨j3, nm_r (e' := nI (bl_yb r + t)) (by rw [ch, hgt]) ⟨j240, nm_r (e' := 13) (by rw [cq, kq, hk]) ⟨j240, nm_r (e' := vX (48 * r + t)) (by rw [cq, nq]) ⟨j3, nm_r (e' := 0) (by rw [ch, hph]) ⟨j3, j3, nm_r (e' := upd ph h 1) (by rw [ch, hph]; rfl) (br_f (by decide) (br_f (by decide) (br_t (by decide) (br_t rfl (br_f (by decide) (br_t rfl (br_f (by decide) (br_f (by decide) (br_f (by decide) (br_f (by decide) (br_f (by decide) (br_f (by decide) (br_f (by decide) (br_f (by decide) (br_f (by decide) (br_f (by decide) (nm_r (nI_pred h) (bl_y_gb1 h3 hbp ⟨j3, nm_r (e' := fb d) (by rw [ch, hob]) (br_f (by decide) (br_f (by decide) (br_f (by decide) (br_t (by decide) (br_t rfl ?_)))))⟩))))))))))))))))))⟩⟩⟩⟩⟩
      rw [ej]
      exact bl_y_hu gts (by omega) hj (fun y => absurd (hcy.mpr y) z) (fun n => hp)
theorem bl_G_prot (C : bl_Cf L dl kX vX df pr sp kY nY en ln) (hcl : cl ≤ st) (hst : st ≤ 300) (So : bl_So sp ss so po sc) (Co : bl_Co kX vX L cc cs cy cb sc cl) (P : bl_Po cl pl pk pv) (V : bl_Vo cl sc sv pk pv) (hd : d + 1 ≤ st) (hw : 3001 * sc + (6 + s) ≤ 3010 * st) (S : bl_St kX vX L sc cl (bl_x fc fs fb fd fv fe kp kv) (bl_y gt ph ge gk gv bp ok ov ob) d h (fb d) s) (hg : bl_vg cl xg yk yv) (hr : r < 5) (ht : t < L r) (hfc : fc d = nI (48 * r + t)) (hgt : gt h = nI (bl_yb r + t)) (hge : fs d = ge h) (hfs : bl_sc sc (fs d)) (hob : fb d = ob h) (hk : kX (48 * r + t) = 15) (hfd : fd d = 1) (hph : ph h = 1) (hkp : kp d = -1) (hbp : bp h = -1) (hxb : xb = fb d) (hfe : fe d = 0) (hv : bl_vg cl (fv d) (gk h) (gv h)) : ∃ u' v' q, q < 3010 * (300 - st) + (6 + s) ∧ bl_RR L q u' v' ∧ (∀ post : SX → Prop, post u' → wpX_resumeFrame post (dl, lr, lc, (nI st), (nI (d + 1)), (nI cl), (nI sc), 1, xa, xs, xb, xg, 0, kX, vX, df, pr, sp, pl, th, fc, fs, fb, fd, fv, fe, kp, kv, cc, cs, ss, sv, so)) ∧ (∀ post : SY → Prop, post v' → wpY_give post ((nI sc), (nI cl), (nI (h + 1)), xb, (nI st), 0, ya, ys, yk, yv, yc, yt, rk, rv, kY, nY, en, ln, pr, sp, pk, pv, th, ss, po, so, cy, cb, cs, gt, ph, ge, gk, gv, bp, ok, ov, ob)) := by
  have K := C.1
  have p240 := bl_pX K hr ht
  have q240 := bl_pY K hr ht
  have kq := (bl_kY K hr ht).1
  have nq := (bl_kY K hr ht).2
  have tk := K.2.2 _ p240
  have R := C.2.1 r hr (by omega)
  have l48 := K.1 r hr
  have i240 : vp_in (nI (48 * r + t)) 240 := vp_in_nI p240 (by decide)
  have j240 : vp_in (nI (bl_yb r + t)) 240 := vp_in_nI q240 (by decide)
  have cp : (nI (48 * r + t)).toNatClampNeg = 48 * r + t := nI_clamp (by omega)
  have cq : (nI (bl_yb r + t)).toNatClampNeg = bl_yb r + t := nI_clamp (by omega)
  have hh := bl_St_le _ _ _ _ S
  have d3 : d < 300 := by omega
  have h3 : h < 320 := by omega
  have cd : (nI d).toNatClampNeg = d := nI_clamp (by omega)
  have ch : (nI h).toNatClampNeg = h := nI_clamp (by omega)
  have i3 : vp_in (nI d) 300 := vp_in_nI d3 (by decide)
  have j3 : vp_in (nI h) 320 := vp_in_nI h3 (by decide)
  have cl3 : cl < 1000 := by omega
  subst hxb
  refine ⟨(dl, lr, lc, (nI st), (nI d), (nI cl), (nI sc), 1, xa, xs, (fb d), (fv d), 0, kX, vX, df, pr, sp, pl, th, fc, fs, fb, (upd fd d 2), fv, fe, kp, kv, cc, cs, ss, sv, so), ((nI sc), (nI cl), (nI h), (fb d), (nI st), 0, ya, ys, (gk h), (gv h), yc, yt, rk, rv, kY, nY, en, ln, pr, sp, pk, pv, th, ss, po, so, cy, cb, cs, gt, (upd ph h 2), ge, gk, gv, bp, ok, ov, ob), _, ?_, bl_mkG (s := s) C (by omega) hcl hst (by omega) So Co P V (bl_St_cg (Nat.le_refl _) (Nat.le_refl _) d h _ s (fun i hi => by simp only [bl_x, upd, vp_updL, if_neg (show ¬ i = d by omega)]) (fun i hi => by simp only [bl_y, upd, if_neg (show ¬ i = h by omega)]) S) hv rfl, fun post hp => ?_, fun post hp => ?_⟩
  · omega
  · refine nm_r (nI_pred d) ⟨i3, nm_r (e' := nI (48 * r + t)) (by rw [cd, hfc]) ⟨i3, i3, nm_r (e' := upd fd d 2) (by rw [cd, hfd]; rfl) ⟨i240, nm_r (e' := 15) (by rw [cp, hk]) (br_f (by decide) (br_f (by decide) (br_f (by decide) (br_f (by decide) (br_f (by decide) (br_f (by decide) (br_f (by decide) (br_f (by decide) (br_f (by decide) (br_f (by decide) (br_f (by decide) (br_f (by decide) (br_f (by decide) (br_f (by decide) (br_f (by decide) (br_t rfl (⟨i3, br_f (by rw [cd, pk_us]; decide) (bl_x_cl1 d3 hkp ⟨i3, ?_⟩)⟩)))))))))))))))))⟩⟩⟩
    rw [cd]
    exact ⟨i3, br_t hfe hp⟩
  · refine nm_r (nI_pred h) ⟨j3, nm_r (e' := nI (bl_yb r + t)) (by rw [ch, hgt]) ⟨j240, nm_r (e' := 15) (by rw [cq, kq, hk]) ⟨j240, nm_r (e' := vX (48 * r + t)) (by rw [cq, nq]) ⟨j3, nm_r (e' := 1) (by rw [ch, hph]) ⟨j3, j3, nm_r (e' := upd ph h 2) (by rw [ch, hph]; rfl) (br_f (by decide) (br_f (by decide) (br_t (by decide) (br_f (by decide) (br_t rfl (br_t rfl (br_t rfl (br_t rfl (br_t rfl (br_t rfl (br_f (by decide) (nm_r (nI_pred h) (bl_y_gb1 h3 hbp ⟨j3, nm_r (e' := fb d) (by rw [ch, hob]) (br_f (by decide) (br_f (by decide) (br_f (by decide) (br_t (by decide) (br_f (by decide) (br_t rfl (br_t rfl ⟨j3, j3, ?_⟩)))))))⟩)))))))))))))⟩⟩⟩⟩⟩
    rw [ch]
    exact hp
theorem bl_G_pend (C : bl_Cf L dl kX vX df pr sp kY nY en ln) (hcl : cl ≤ st) (hst : st ≤ 300) (So : bl_So sp ss so po sc) (Co : bl_Co kX vX L cc cs cy cb sc cl) (P : bl_Po cl pl pk pv) (V : bl_Vo cl sc sv pk pv) (hd : d + 1 ≤ st) (hw : 3001 * sc + (6 + s) ≤ 3010 * st) (S : bl_St kX vX L sc cl (bl_x fc fs fb fd fv fe kp kv) (bl_y gt ph ge gk gv bp ok ov ob) d h (fb d) s) (hg : bl_vg cl xg yk yv) (hr : r < 5) (ht : t < L r) (hfc : fc d = nI (48 * r + t)) (hgt : gt h = nI (bl_yb r + t)) (hge : fs d = ge h) (hfs : bl_sc sc (fs d)) (hob : fb d = ob h) (hk : kX (48 * r + t) = 15) (hfd : fd d = 1) (hph : ph h = 2) (hkp : kp d = -1) (hbp : bp h = -1) (hxb : xb = fb d) (he : bl_er cl (bl_hc kX vX (bl_x fc fs fb fd fv fe kp kv) d) (fe d) (fv d) (ok h) (ov h) (gk h) (gv h)) : ∃ u' v' q, q < 3010 * (300 - st) + (6 + s) ∧ bl_RR L q u' v' ∧ (∀ post : SX → Prop, post u' → wpX_resumeFrame post (dl, lr, lc, (nI st), (nI (d + 1)), (nI cl), (nI sc), 1, xa, xs, xb, xg, 0, kX, vX, df, pr, sp, pl, th, fc, fs, fb, fd, fv, fe, kp, kv, cc, cs, ss, sv, so)) ∧ (∀ post : SY → Prop, post v' → wpY_give post ((nI sc), (nI cl), (nI (h + 1)), xb, (nI st), 0, ya, ys, yk, yv, yc, yt, rk, rv, kY, nY, en, ln, pr, sp, pk, pv, th, ss, po, so, cy, cb, cs, gt, ph, ge, gk, gv, bp, ok, ov, ob)) := by
  have K := C.1
  have p240 := bl_pX K hr ht
  have q240 := bl_pY K hr ht
  have kq := (bl_kY K hr ht).1
  have nq := (bl_kY K hr ht).2
  have tk := K.2.2 _ p240
  have R := C.2.1 r hr (by omega)
  have l48 := K.1 r hr
  have i240 : vp_in (nI (48 * r + t)) 240 := vp_in_nI p240 (by decide)
  have j240 : vp_in (nI (bl_yb r + t)) 240 := vp_in_nI q240 (by decide)
  have cp : (nI (48 * r + t)).toNatClampNeg = 48 * r + t := nI_clamp (by omega)
  have cq : (nI (bl_yb r + t)).toNatClampNeg = bl_yb r + t := nI_clamp (by omega)
  have hh := bl_St_le _ _ _ _ S
  have d3 : d < 300 := by omega
  have h3 : h < 320 := by omega
  have cd : (nI d).toNatClampNeg = d := nI_clamp (by omega)
  have ch : (nI h).toNatClampNeg = h := nI_clamp (by omega)
  have i3 : vp_in (nI d) 300 := vp_in_nI d3 (by decide)
  have j3 : vp_in (nI h) 320 := vp_in_nI h3 (by decide)
  have cl3 : cl < 1000 := by omega
  subst hxb
  have nz : ¬ fe d = 0 := by
    rcases he with ⟨c, c1, c2, c3, _⟩ | ⟨c, c1, c3, _⟩
    · rw [c3]; exact nI_ne0 (by omega) (by omega)
    · rw [c3]; exact nI_ne0 (by omega) (by omega)
  refine ⟨(dl, lr, lc, (nI st), (nI d), (nI cl), (nI sc), 2, xa, xs, (fb d), (fv d), (fe d), kX, vX, df, pr, sp, pl, th, fc, fs, fb, (upd fd d 2), fv, fe, kp, kv, cc, cs, ss, sv, so), ((nI sc), (nI cl), (nI h), (fb d), (nI st), 2, ya, ys, (gk h), (gv h), (ov h), (ok h), rk, rv, kY, nY, en, ln, pr, sp, pk, pv, th, ss, po, so, cy, cb, cs, gt, (upd ph h 3), ge, gk, gv, bp, ok, ov, ob), _, ?_, bl_mkN (s := s) C (by omega) hcl hst (by omega) So Co P V (Or.inl (bl_St_cg (Nat.le_refl _) (Nat.le_refl _) d h _ s (fun i hi => by simp only [bl_x, upd, vp_updL, if_neg (show ¬ i = d by omega)]) (fun i hi => by simp only [bl_y, upd, if_neg (show ¬ i = h by omega)]) S)) (bl_er_up (Nat.le_refl _) (fun t => bl_hc_cg (fun i hi => by simp only [bl_x, upd, vp_updL, if_neg (show ¬ i = d by omega)])) he) rfl, fun post hp => ?_, fun post hp => ?_⟩
  · omega
  · refine nm_r (nI_pred d) ⟨i3, nm_r (e' := nI (48 * r + t)) (by rw [cd, hfc]) ⟨i3, i3, nm_r (e' := upd fd d 2) (by rw [cd, hfd]; rfl) ⟨i240, nm_r (e' := 15) (by rw [cp, hk]) (br_f (by decide) (br_f (by decide) (br_f (by decide) (br_f (by decide) (br_f (by decide) (br_f (by decide) (br_f (by decide) (br_f (by decide) (br_f (by decide) (br_f (by decide) (br_f (by decide) (br_f (by decide) (br_f (by decide) (br_f (by decide) (br_f (by decide) (br_t rfl (⟨i3, br_f (by rw [cd, pk_us]; decide) (bl_x_cl1 d3 hkp ⟨i3, ?_⟩)⟩)))))))))))))))))⟩⟩⟩
    rw [cd]
    exact ⟨i3, br_f nz ⟨i3, hp⟩⟩
  · exact nm_r (nI_pred h) ⟨j3, nm_r (e' := nI (bl_yb r + t)) (by rw [ch, hgt]) ⟨j240, nm_r (e' := 15) (by rw [cq, kq, hk]) ⟨j240, nm_r (e' := vX (48 * r + t)) (by rw [cq, nq]) ⟨j3, nm_r (e' := 2) (by rw [ch, hph]) ⟨j3, j3, nm_r (e' := upd ph h 3) (by rw [ch, hph]; rfl) (br_f (by decide) (br_f (by decide) (br_t (by decide) (br_f (by decide) (br_t rfl (br_t rfl (br_t rfl (br_t rfl (br_t rfl (br_f (by decide) (nm_r (nI_pred h) (bl_y_gb1 h3 hbp ⟨j3, nm_r (e' := fb d) (by rw [ch, hob]) (br_f (by decide) (br_f (by decide) (br_f (by decide) (br_t (by decide) (br_f (by decide) (br_t rfl (br_f (by decide) (br_t rfl ⟨j3, nm_r (e' := ok h) (by rw [ch]) ⟨j3, nm_r (e' := ov h) (by rw [ch]) ⟨j3, nm_r (e' := gk h) (by rw [ch]) ⟨j3, nm_r (e' := gv h) (by rw [ch]) hp⟩⟩⟩⟩))))))))⟩))))))))))))⟩⟩⟩⟩⟩
theorem bl_G_set (C : bl_Cf L dl kX vX df pr sp kY nY en ln) (hcl : cl ≤ st) (hst : st ≤ 300) (So : bl_So sp ss so po sc) (Co : bl_Co kX vX L cc cs cy cb sc cl) (P : bl_Po cl pl pk pv) (V : bl_Vo cl sc sv pk pv) (hd : d + 1 ≤ st) (hw : 3001 * sc + (3009 + s) ≤ 3010 * st) (S : bl_St kX vX L sc cl (bl_x fc fs fb fd fv fe kp kv) (bl_y gt ph ge gk gv bp ok ov ob) d h (fb d) s) (hg : bl_vg cl xg yk yv) (hr : r < 5) (ht : t < L r) (hfc : fc d = nI (48 * r + t)) (hgt : gt h = nI (bl_yb r + t)) (hge : fs d = ge h) (hfs : bl_sc sc (fs d)) (hob : fb d = ob h) (hk : kX (48 * r + t) = 2) (hfd : fd d = 0) (hph : ph h = 0) (hkp : kp d = -1) (hbp : bp h = -1) (hxb : xb = fb d) : ∃ u' v' q, q < 3010 * (300 - st) + (3009 + s) ∧ bl_RR L q u' v' ∧ (∀ post : SX → Prop, post u' → wpX_resumeFrame post (dl, lr, lc, (nI st), (nI (d + 1)), (nI cl), (nI sc), 1, xa, xs, xb, xg, 0, kX, vX, df, pr, sp, pl, th, fc, fs, fb, fd, fv, fe, kp, kv, cc, cs, ss, sv, so)) ∧ (∀ post : SY → Prop, post v' → wpY_give post ((nI sc), (nI cl), (nI (h + 1)), xb, (nI st), 0, ya, ys, yk, yv, yc, yt, rk, rv, kY, nY, en, ln, pr, sp, pk, pv, th, ss, po, so, cy, cb, cs, gt, ph, ge, gk, gv, bp, ok, ov, ob)) := by
  have K := C.1
  have p240 := bl_pX K hr ht
  have q240 := bl_pY K hr ht
  have kq := (bl_kY K hr ht).1
  have nq := (bl_kY K hr ht).2
  have tk := K.2.2 _ p240
  have R := C.2.1 r hr (by omega)
  have l48 := K.1 r hr
  have i240 : vp_in (nI (48 * r + t)) 240 := vp_in_nI p240 (by decide)
  have j240 : vp_in (nI (bl_yb r + t)) 240 := vp_in_nI q240 (by decide)
  have cp : (nI (48 * r + t)).toNatClampNeg = 48 * r + t := nI_clamp (by omega)
  have cq : (nI (bl_yb r + t)).toNatClampNeg = bl_yb r + t := nI_clamp (by omega)
  have hh := bl_St_le _ _ _ _ S
  have d3 : d < 300 := by omega
  have h3 : h < 320 := by omega
  have cd : (nI d).toNatClampNeg = d := nI_clamp (by omega)
  have ch : (nI h).toNatClampNeg = h := nI_clamp (by omega)
  have i3 : vp_in (nI d) 300 := vp_in_nI d3 (by decide)
  have j3 : vp_in (nI h) 320 := vp_in_nI h3 (by decide)
  have cl3 : cl < 1000 := by omega
  obtain ⟨b, hb, eb⟩ := bl_St_b K _ _ _ _ S
  rw [eb] at hxb
  subst hxb
  obtain ⟨j, hj, ej⟩ := bl_tk8 tk (by rw [hk]; decide)
  have hsc : sc ≤ 300 := by omega
  have S1 : bl_St kX vX L sc cl (bl_x fc fs fb (upd fd d 1) fv fe kp kv) (bl_y gt (upd ph h 1) ge gk gv bp ok ov ob) d h (nI b) s := by
    rw [← eb]; exact bl_St_cg (Nat.le_refl _) (Nat.le_refl _) d h _ s (fun i hi => by simp only [bl_x, upd, vp_updL, if_neg (show ¬ i = d by omega)]) (fun i hi => by simp only [bl_y, upd, if_neg (show ¬ i = h by omega)]) S
  have cl1 : ∀ (pl : Nat → Int64) (sv : Nat → Int64) (post : SX → Prop), post (dl, lr, lc, (nI st), (nI d), (nI cl), (nI sc), 1, xa, xs, (nI b), xg, 0, kX, vX, df, pr, sp, pl, th, fc, fs, fb, (upd fd d 1), fv, fe, kp, kv, cc, cs, ss, sv, so) → wpX_closeFrame post (dl, lr, lc, (nI st), (nI (d + 1)), (nI cl), (nI sc), 1, xa, xs, (nI b), xg, 0, kX, vX, df, pr, sp, pl, th, fc, fs, fb, (upd fd d 1), fv, fe, kp, kv, cc, cs, ss, sv, so) := by
    intro pl sv post hp
    refine bl_x_cl1 d3 hkp ?_
    rw [eb]; exact hp
  rcases bl_look (dl := dl) (lr := lr) (lc := lc) (xst := nI st) (xd := nI (d + 1)) (xcl := nI cl) (xsc := nI sc) (xm := 1) (xa := xa) (xs := xs) (xb := nI b) (xg := xg) (xe := 0) (kX := kX) (vX := vX) (df := df) (pr := pr) (sp := sp) (pl := pl) (th := th) (fc := fc) (fs := fs) (fb := fb) (fd := upd fd d 1) (fv := fv) (fe := fe) (kp := kp) (kv := kv) (cc := cc) (cs := cs) (ss := ss) (sv := sv) (so := so) (yen := nI sc) (ycl := nI cl) (yw := nI h) (ym := 0) (ya := ya) (ys := ys) (yk := yk) (yv := yv) (yc := yc) (yt := yt) (rk := rk) (rv := rv) (kY := kY) (nY := nY) (en := en) (ln := ln) (pk := pk) (pv := pv) (po := po) (cy := cy) (cb := cb) (gt := gt) (ph := upd ph h 1) (ge := ge) (gk := gk) (gv := gv) (bp := bp) (ok := ok) (ov := ov) (ob := ob) (e := fs d) (j := j) So hsc hj hfs with ⟨m, hm, hX, hY⟩ | ⟨hX, hY⟩
  · refine ⟨(dl, lr, lc, (nI st), (nI d), (nI cl), (nI sc), 1, xa, xs, (nI b), xg, 0, kX, vX, df, pr, sp, pl, th, fc, fs, fb, (upd fd d 1), fv, fe, kp, kv, cc, cs, ss, (vp_updL sv m xg), so), ((nI sc), (nI cl), (nI h), (nI b), (nI st), 0, ya, ys, yk, yv, yc, yt, rk, rv, kY, nY, en, ln, pr, sp, (upd pk (32 + m) yk), (upd pv (32 + m) yv), th, ss, po, so, cy, cb, cs, gt, (upd ph h 1), ge, gk, gv, bp, ok, ov, ob), _, ?_, bl_mkG (s := s) C (by omega) hcl hst (by omega) So Co (bl_Po_sc P m yk yv) (bl_Vo_set V m (fun i h1 _ => h1) (bl_vg_r hg)) S1 hg rfl, fun post hp => ?_, fun post hp => ?_⟩
    · omega
    · refine nm_r (nI_pred d) ⟨i3, nm_r (e' := nI (48 * r + t)) (by rw [cd, hfc]) ⟨i3, i3, nm_r (e' := upd fd d 1) (by rw [cd, hfd]; rfl) ⟨i240, nm_r (e' := 2) (by rw [cp, hk]) (br_f (by decide) (br_f (by decide) (br_t rfl (⟨i240, ⟨i3, ?_⟩⟩))))⟩⟩⟩
      rw [cd, cp, ej]
      exact hX _ (br_f (bl_neg1 (by omega)) ⟨vp_in_nI (by omega) (by decide), nm_r (e' := vp_updL sv m xg) (by rw [nI_clamp (by omega)]) (cl1 _ _ _ hp)⟩)
    · refine nm_r (nI_pred h) ⟨j3, nm_r (e' := nI (bl_yb r + t)) (by rw [ch, hgt]) ⟨j240, nm_r (e' := 2) (by rw [cq, kq, hk]) ⟨j240, nm_r (e' := vX (48 * r + t)) (by rw [cq, nq]) ⟨j3, nm_r (e' := 0) (by rw [ch, hph]) ⟨j3, j3, nm_r (e' := upd ph h 1) (by rw [ch, hph]; rfl) (br_f (by decide) (br_t (by decide) (br_t rfl (br_f (by decide) (br_t rfl (br_f (by decide) (br_f (by decide) (br_f (by decide) (br_f (by decide) (br_f (by decide) (br_f (by decide) (br_f (by decide) (br_f (by decide) (br_f (by decide) (br_f (by decide) (nm_r (nI_pred h) (bl_y_gb1 h3 hbp ⟨j3, nm_r (e' := nI b) (by rw [ch, ← hob, eb]) (br_t rfl (⟨j3, ?_⟩))⟩)))))))))))))))))⟩⟩⟩⟩⟩
      rw [ch, ej, ← hge]
      exact hY _ ⟨vp_in_nI (by omega) (by decide), nm_r (e' := upd pk (32 + m) yk) (by rw [nI_clamp (by omega)]) ⟨vp_in_nI (by omega) (by decide), nm_r (e' := upd pv (32 + m) yv) (by rw [nI_clamp (by omega)]) hp⟩⟩
  · obtain ⟨p, hp0, ep⟩ := bl_pp (th := th) hj hb
    refine ⟨(dl, lr, lc, (nI st), (nI d), (nI cl), (nI sc), 1, xa, xs, (nI b), xg, 0, kX, vX, df, pr, sp, (vp_updL pl p xg), th, fc, fs, fb, (upd fd d 1), fv, fe, kp, kv, cc, cs, ss, sv, so), ((nI sc), (nI cl), (nI h), (nI b), (nI st), 0, ya, ys, yk, yv, yc, yt, rk, rv, kY, nY, en, ln, pr, sp, (upd pk p yk), (upd pv p yv), th, ss, po, so, cy, cb, cs, gt, (upd ph h 1), ge, gk, gv, bp, ok, ov, ob), _, ?_, bl_mkG (s := s) C (by omega) hcl hst (by omega) So Co (bl_Po_set P p (bl_vg_r hg)) (bl_Vo_pl V hp0 yk yv) S1 hg rfl, fun post hp => ?_, fun post hp => ?_⟩
    · omega
    · refine nm_r (nI_pred d) ⟨i3, nm_r (e' := nI (48 * r + t)) (by rw [cd, hfc]) ⟨i3, i3, nm_r (e' := upd fd d 1) (by rw [cd, hfd]; rfl) ⟨i240, nm_r (e' := 2) (by rw [cp, hk]) (br_f (by decide) (br_f (by decide) (br_t rfl (⟨i240, ⟨i3, ?_⟩⟩))))⟩⟩⟩
      rw [cd, cp, ej]
      refine hX _ (br_t rfl (bl_x_pp hj hb ?_))
      rw [ep]
      exact ⟨vp_in_nI hp0 (by decide), nm_r (e' := vp_updL pl p xg) (by rw [nI_clamp (by omega)]) (cl1 _ _ _ hp)⟩
    · refine nm_r (nI_pred h) ⟨j3, nm_r (e' := nI (bl_yb r + t)) (by rw [ch, hgt]) ⟨j240, nm_r (e' := 2) (by rw [cq, kq, hk]) ⟨j240, nm_r (e' := vX (48 * r + t)) (by rw [cq, nq]) ⟨j3, nm_r (e' := 0) (by rw [ch, hph]) ⟨j3, j3, nm_r (e' := upd ph h 1) (by rw [ch, hph]; rfl) (br_f (by decide) (br_t (by decide) (br_t rfl (br_f (by decide) (br_t rfl (br_f (by decide) (br_f (by decide) (br_f (by decide) (br_f (by decide) (br_f (by decide) (br_f (by decide) (br_f (by decide) (br_f (by decide) (br_f (by decide) (br_f (by decide) (nm_r (nI_pred h) (bl_y_gb1 h3 hbp ⟨j3, nm_r (e' := nI b) (by rw [ch, ← hob, eb]) (br_t rfl (⟨j3, ?_⟩))⟩)))))))))))))))))⟩⟩⟩⟩⟩
      rw [ch, ej, ← hge]
      refine hY _ (bl_y_pp hj hb ?_)
      rw [ep]
      exact ⟨vp_in_nI (by omega) (by decide), nm_r (e' := upd pk p yk) (by rw [nI_clamp (by omega)]) ⟨vp_in_nI (by omega) (by decide), nm_r (e' := upd pv p yv) (by rw [nI_clamp (by omega)]) hp⟩⟩
theorem bl_G_local (C : bl_Cf L dl kX vX df pr sp kY nY en ln) (hcl : cl ≤ st) (hst : st ≤ 300) (So : bl_So sp ss so po sc) (Co : bl_Co kX vX L cc cs cy cb sc cl) (P : bl_Po cl pl pk pv) (V : bl_Vo cl sc sv pk pv) (hd : d + 1 ≤ st) (hw : 3001 * sc + (3009 + s) ≤ 3010 * st) (S : bl_St kX vX L sc cl (bl_x fc fs fb fd fv fe kp kv) (bl_y gt ph ge gk gv bp ok ov ob) d h (fb d) s) (hg : bl_vg cl xg yk yv) (hr : r < 5) (ht : t < L r) (hfc : fc d = nI (48 * r + t)) (hgt : gt h = nI (bl_yb r + t)) (hge : fs d = ge h) (hfs : bl_sc sc (fs d)) (hob : fb d = ob h) (hk : kX (48 * r + t) = 17) (hfd : fd d = 0) (hph : ph h = 0) (hkp : kp d = -1) (hbp : bp h = -1) (hxb : xb = fb d) : ∃ u' v' q, q < 3010 * (300 - st) + (3009 + s) ∧ bl_RR L q u' v' ∧ (∀ post : SX → Prop, post u' → wpX_resumeFrame post (dl, lr, lc, (nI st), (nI (d + 1)), (nI cl), (nI sc), 1, xa, xs, xb, xg, 0, kX, vX, df, pr, sp, pl, th, fc, fs, fb, fd, fv, fe, kp, kv, cc, cs, ss, sv, so)) ∧ (∀ post : SY → Prop, post v' → wpY_give post ((nI sc), (nI cl), (nI (h + 1)), xb, (nI st), 0, ya, ys, yk, yv, yc, yt, rk, rv, kY, nY, en, ln, pr, sp, pk, pv, th, ss, po, so, cy, cb, cs, gt, ph, ge, gk, gv, bp, ok, ov, ob)) := by
  have K := C.1
  have p240 := bl_pX K hr ht
  have q240 := bl_pY K hr ht
  have kq := (bl_kY K hr ht).1
  have nq := (bl_kY K hr ht).2
  have tk := K.2.2 _ p240
  have R := C.2.1 r hr (by omega)
  have l48 := K.1 r hr
  have i240 : vp_in (nI (48 * r + t)) 240 := vp_in_nI p240 (by decide)
  have j240 : vp_in (nI (bl_yb r + t)) 240 := vp_in_nI q240 (by decide)
  have cp : (nI (48 * r + t)).toNatClampNeg = 48 * r + t := nI_clamp (by omega)
  have cq : (nI (bl_yb r + t)).toNatClampNeg = bl_yb r + t := nI_clamp (by omega)
  have hh := bl_St_le _ _ _ _ S
  have d3 : d < 300 := by omega
  have h3 : h < 320 := by omega
  have cd : (nI d).toNatClampNeg = d := nI_clamp (by omega)
  have ch : (nI h).toNatClampNeg = h := nI_clamp (by omega)
  have i3 : vp_in (nI d) 300 := vp_in_nI d3 (by decide)
  have j3 : vp_in (nI h) 320 := vp_in_nI h3 (by decide)
  have cl3 : cl < 1000 := by omega
  obtain ⟨b, hb, eb⟩ := bl_St_b K _ _ _ _ S
  rw [eb] at hxb
  subst hxb
  obtain ⟨j, hj, ej⟩ := bl_tk8 tk (by rw [hk]; decide)
  have S1 : bl_St kX vX L sc cl (bl_x fc fs fb (upd fd d 1) fv fe kp kv) (bl_y gt (upd ph h 1) ge gk gv bp ok ov ob) d h (nI b) s := by
    rw [← eb]; exact bl_St_cg (Nat.le_refl _) (Nat.le_refl _) d h _ s (fun i hi => by simp only [bl_x, upd, vp_updL, if_neg (show ¬ i = d by omega)]) (fun i hi => by simp only [bl_y, upd, if_neg (show ¬ i = h by omega)]) S
  have q32 : vp_in (nI (8 * (b + 1) + j)) 32 := vp_in_nI (by omega) (by decide)
  have q34 : vp_in (nI (8 * (b + 1) + j)) 340 := vp_in_nI (by omega) (by decide)
  have cq2 : (nI (8 * (b + 1) + j)).toNatClampNeg = 8 * (b + 1) + j := nI_clamp (by omega)
  refine ⟨(dl, lr, lc, (nI st), (nI d), (nI cl), (nI sc), 1, xa, xs, (nI b), xg, 0, kX, vX, df, pr, sp, (vp_updL pl (8 * (b + 1) + j) xg), (upd th (8 * (b + 1) + j) 1), fc, fs, fb, (upd fd d 1), fv, fe, kp, kv, cc, cs, ss, sv, so), ((nI sc), (nI cl), (nI h), (nI b), (nI st), 0, ya, ys, yk, yv, yc, yt, rk, rv, kY, nY, en, ln, pr, sp, (upd pk (8 * (b + 1) + j) yk), (upd pv (8 * (b + 1) + j) yv), (upd th (8 * (b + 1) + j) 1), ss, po, so, cy, cb, cs, gt, (upd ph h 1), ge, gk, gv, bp, ok, ov, ob), _, ?_, bl_mkG (s := s) C (by omega) hcl hst (by omega) So Co (bl_Po_set P (8 * (b + 1) + j) (bl_vg_r hg)) (bl_Vo_pl V (by omega) yk yv) S1 hg rfl, fun post hp => ?_, fun post hp => ?_⟩
  · omega
  · refine nm_r (nI_pred d) ⟨i3, nm_r (e' := nI (48 * r + t)) (by rw [cd, hfc]) ⟨i3, i3, nm_r (e' := upd fd d 1) (by rw [cd, hfd]; rfl) ⟨i240, nm_r (e' := 17) (by rw [cp, hk]) (br_f (by decide) (br_f (by decide) (br_f (by decide) (br_f (by decide) (br_f (by decide) (br_f (by decide) (br_f (by decide) (br_f (by decide) (br_f (by decide) (br_f (by decide) (br_f (by decide) (br_f (by decide) (br_f (by decide) (br_f (by decide) (br_f (by decide) (br_f (by decide) (br_f (by decide) (br_t rfl (⟨i240, ?_⟩)))))))))))))))))))⟩⟩⟩
    rw [cp, ej]
    show vp_in ((nI b + 1) * 8 + nI j) 32 ∧ _
    rw [bl_lpX]
    refine ⟨q32, nm_r (e' := upd th (8 * (b + 1) + j) 1) (by rw [cq2, bl_nb1]) ⟨q32, nm_r (e' := vp_updL pl (8 * (b + 1) + j) xg) (by rw [cq2]) (bl_x_cl1 d3 hkp ?_)⟩⟩
    rw [eb]; exact hp
  · refine nm_r (nI_pred h) ⟨j3, nm_r (e' := nI (bl_yb r + t)) (by rw [ch, hgt]) ⟨j240, nm_r (e' := 17) (by rw [cq, kq, hk]) ⟨j240, nm_r (e' := vX (48 * r + t)) (by rw [cq, nq]) ⟨j3, nm_r (e' := 0) (by rw [ch, hph]) ⟨j3, j3, nm_r (e' := upd ph h 1) (by rw [ch, hph]; rfl) (br_f (by decide) (br_f (by decide) (br_t (by decide) (br_t rfl (br_f (by decide) (br_t rfl (br_f (by decide) (br_f (by decide) (br_f (by decide) (br_f (by decide) (br_f (by decide) (br_f (by decide) (br_f (by decide) (br_f (by decide) (br_f (by decide) (br_f (by decide) (nm_r (nI_pred h) (bl_y_gb1 h3 hbp ⟨j3, nm_r (e' := nI b) (by rw [ch, ← hob, eb]) (br_f (by decide) (br_t rfl (?_)))⟩))))))))))))))))))⟩⟩⟩⟩⟩
    rw [ej, bl_lpY]
    exact ⟨q32, nm_r (e' := upd th (8 * (b + 1) + j) 1) (by rw [cq2, bl_nb1]) ⟨q34, nm_r (e' := upd pk (8 * (b + 1) + j) yk) (by rw [cq2]) ⟨q34, nm_r (e' := upd pv (8 * (b + 1) + j) yv) (by rw [cq2]) hp⟩⟩⟩
theorem bl_G_inert7 (C : bl_Cf L dl kX vX df pr sp kY nY en ln) (hcl : cl ≤ st) (hst : st ≤ 300) (So : bl_So sp ss so po sc) (Co : bl_Co kX vX L cc cs cy cb sc cl) (P : bl_Po cl pl pk pv) (V : bl_Vo cl sc sv pk pv) (hd : d + 1 ≤ st) (hw : 3001 * sc + (6 + s) ≤ 3010 * st) (S : bl_St kX vX L sc cl (bl_x fc fs fb fd fv fe kp kv) (bl_y gt ph ge gk gv bp ok ov ob) d h (fb d) s) (hg : bl_vg cl xg yk yv) (hr : r < 5) (ht : t < L r) (hfc : fc d = nI (48 * r + t)) (hk : kX (48 * r + t) = 7) (hfd : fd d = 1) (hkp : kp d = -1) (hxb : xb = fb d) : ∃ u' q, q < 3010 * (300 - st) + (6 + s) ∧ bl_RR L q u' ((nI sc), (nI cl), (nI h), xb, (nI st), 0, ya, ys, yk, yv, yc, yt, rk, rv, kY, nY, en, ln, pr, sp, pk, pv, th, ss, po, so, cy, cb, cs, gt, ph, ge, gk, gv, bp, ok, ov, ob) ∧ (∀ post : SX → Prop, post u' → wpX_resumeFrame post (dl, lr, lc, (nI st), (nI (d + 1)), (nI cl), (nI sc), 1, xa, xs, xb, xg, 0, kX, vX, df, pr, sp, pl, th, fc, fs, fb, fd, fv, fe, kp, kv, cc, cs, ss, sv, so)) := by
  have K := C.1
  have p240 := bl_pX K hr ht
  have q240 := bl_pY K hr ht
  have kq := (bl_kY K hr ht).1
  have nq := (bl_kY K hr ht).2
  have tk := K.2.2 _ p240
  have R := C.2.1 r hr (by omega)
  have l48 := K.1 r hr
  have i240 : vp_in (nI (48 * r + t)) 240 := vp_in_nI p240 (by decide)
  have j240 : vp_in (nI (bl_yb r + t)) 240 := vp_in_nI q240 (by decide)
  have cp : (nI (48 * r + t)).toNatClampNeg = 48 * r + t := nI_clamp (by omega)
  have cq : (nI (bl_yb r + t)).toNatClampNeg = bl_yb r + t := nI_clamp (by omega)
  have hh := bl_St_le _ _ _ _ S
  have d3 : d < 300 := by omega
  have h3 : h < 320 := by omega
  have cd : (nI d).toNatClampNeg = d := nI_clamp (by omega)
  have ch : (nI h).toNatClampNeg = h := nI_clamp (by omega)
  have i3 : vp_in (nI d) 300 := vp_in_nI d3 (by decide)
  have j3 : vp_in (nI h) 320 := vp_in_nI h3 (by decide)
  have cl3 : cl < 1000 := by omega
  subst hxb
  refine ⟨(dl, lr, lc, (nI st), (nI d), (nI cl), (nI sc), 1, xa, xs, (fb d), xg, 0, kX, vX, df, pr, sp, pl, th, fc, fs, fb, (upd fd d 2), fv, fe, kp, kv, cc, cs, ss, sv, so), _, ?_, bl_mkG (s := s) C (by omega) hcl hst (by omega) So Co P V (bl_St_cg (Nat.le_refl _) (Nat.le_refl _) d h _ s (fun i hi => by simp only [bl_x, upd, vp_updL, if_neg (show ¬ i = d by omega)]) (fun _ _ => rfl) S) hg rfl, fun post hp => ?_⟩
  · omega
  · exact nm_r (nI_pred d) ⟨i3, nm_r (e' := nI (48 * r + t)) (by rw [cd, hfc]) ⟨i3, i3, nm_r (e' := upd fd d 2) (by rw [cd, hfd]; rfl) ⟨i240, nm_r (e' := 7) (by rw [cp, hk]) (br_f (by decide) (br_f (by decide) (br_f (by decide) (br_f (by decide) (br_f (by decide) (br_f (by decide) (br_f (by decide) (br_t rfl (⟨i3, br_f (by rw [cd, pk_us]; decide) (bl_x_cl1 d3 hkp hp)⟩)))))))))⟩⟩⟩
theorem bl_G_inert8 (C : bl_Cf L dl kX vX df pr sp kY nY en ln) (hcl : cl ≤ st) (hst : st ≤ 300) (So : bl_So sp ss so po sc) (Co : bl_Co kX vX L cc cs cy cb sc cl) (P : bl_Po cl pl pk pv) (V : bl_Vo cl sc sv pk pv) (hd : d + 1 ≤ st) (hw : 3001 * sc + (6 + s) ≤ 3010 * st) (S : bl_St kX vX L sc cl (bl_x fc fs fb fd fv fe kp kv) (bl_y gt ph ge gk gv bp ok ov ob) d h (fb d) s) (hg : bl_vg cl xg yk yv) (hr : r < 5) (ht : t < L r) (hfc : fc d = nI (48 * r + t)) (hk : kX (48 * r + t) = 8) (hfd : fd d = 1) (hkp : kp d = -1) (hxb : xb = fb d) : ∃ u' q, q < 3010 * (300 - st) + (6 + s) ∧ bl_RR L q u' ((nI sc), (nI cl), (nI h), xb, (nI st), 0, ya, ys, yk, yv, yc, yt, rk, rv, kY, nY, en, ln, pr, sp, pk, pv, th, ss, po, so, cy, cb, cs, gt, ph, ge, gk, gv, bp, ok, ov, ob) ∧ (∀ post : SX → Prop, post u' → wpX_resumeFrame post (dl, lr, lc, (nI st), (nI (d + 1)), (nI cl), (nI sc), 1, xa, xs, xb, xg, 0, kX, vX, df, pr, sp, pl, th, fc, fs, fb, fd, fv, fe, kp, kv, cc, cs, ss, sv, so)) := by
  have K := C.1
  have p240 := bl_pX K hr ht
  have q240 := bl_pY K hr ht
  have kq := (bl_kY K hr ht).1
  have nq := (bl_kY K hr ht).2
  have tk := K.2.2 _ p240
  have R := C.2.1 r hr (by omega)
  have l48 := K.1 r hr
  have i240 : vp_in (nI (48 * r + t)) 240 := vp_in_nI p240 (by decide)
  have j240 : vp_in (nI (bl_yb r + t)) 240 := vp_in_nI q240 (by decide)
  have cp : (nI (48 * r + t)).toNatClampNeg = 48 * r + t := nI_clamp (by omega)
  have cq : (nI (bl_yb r + t)).toNatClampNeg = bl_yb r + t := nI_clamp (by omega)
  have hh := bl_St_le _ _ _ _ S
  have d3 : d < 300 := by omega
  have h3 : h < 320 := by omega
  have cd : (nI d).toNatClampNeg = d := nI_clamp (by omega)
  have ch : (nI h).toNatClampNeg = h := nI_clamp (by omega)
  have i3 : vp_in (nI d) 300 := vp_in_nI d3 (by decide)
  have j3 : vp_in (nI h) 320 := vp_in_nI h3 (by decide)
  have cl3 : cl < 1000 := by omega
  subst hxb
  refine ⟨(dl, lr, lc, (nI st), (nI d), (nI cl), (nI sc), 1, xa, xs, (fb d), xg, 0, kX, vX, df, pr, sp, pl, th, fc, fs, fb, (upd fd d 2), fv, fe, kp, kv, cc, cs, ss, sv, so), _, ?_, bl_mkG (s := s) C (by omega) hcl hst (by omega) So Co P V (bl_St_cg (Nat.le_refl _) (Nat.le_refl _) d h _ s (fun i hi => by simp only [bl_x, upd, vp_updL, if_neg (show ¬ i = d by omega)]) (fun _ _ => rfl) S) hg rfl, fun post hp => ?_⟩
  · omega
  · exact nm_r (nI_pred d) ⟨i3, nm_r (e' := nI (48 * r + t)) (by rw [cd, hfc]) ⟨i3, i3, nm_r (e' := upd fd d 2) (by rw [cd, hfd]; rfl) ⟨i240, nm_r (e' := 8) (by rw [cp, hk]) (br_f (by decide) (br_f (by decide) (br_f (by decide) (br_f (by decide) (br_f (by decide) (br_f (by decide) (br_f (by decide) (br_f (by decide) (br_t rfl (⟨i3, br_f (by rw [cd, pk_us]; decide) (bl_x_cl1 d3 hkp hp)⟩))))))))))⟩⟩⟩
theorem bl_G_inert14 (C : bl_Cf L dl kX vX df pr sp kY nY en ln) (hcl : cl ≤ st) (hst : st ≤ 300) (So : bl_So sp ss so po sc) (Co : bl_Co kX vX L cc cs cy cb sc cl) (P : bl_Po cl pl pk pv) (V : bl_Vo cl sc sv pk pv) (hd : d + 1 ≤ st) (hw : 3001 * sc + (6 + s) ≤ 3010 * st) (S : bl_St kX vX L sc cl (bl_x fc fs fb fd fv fe kp kv) (bl_y gt ph ge gk gv bp ok ov ob) d h (fb d) s) (hg : bl_vg cl xg yk yv) (hr : r < 5) (ht : t < L r) (hfc : fc d = nI (48 * r + t)) (hk : kX (48 * r + t) = 14) (hfd : fd d = 1) (hkp : kp d = -1) (hxb : xb = fb d) : ∃ u' q, q < 3010 * (300 - st) + (6 + s) ∧ bl_RR L q u' ((nI sc), (nI cl), (nI h), xb, (nI st), 0, ya, ys, yk, yv, yc, yt, rk, rv, kY, nY, en, ln, pr, sp, pk, pv, th, ss, po, so, cy, cb, cs, gt, ph, ge, gk, gv, bp, ok, ov, ob) ∧ (∀ post : SX → Prop, post u' → wpX_resumeFrame post (dl, lr, lc, (nI st), (nI (d + 1)), (nI cl), (nI sc), 1, xa, xs, xb, xg, 0, kX, vX, df, pr, sp, pl, th, fc, fs, fb, fd, fv, fe, kp, kv, cc, cs, ss, sv, so)) := by
  have K := C.1
  have p240 := bl_pX K hr ht
  have q240 := bl_pY K hr ht
  have kq := (bl_kY K hr ht).1
  have nq := (bl_kY K hr ht).2
  have tk := K.2.2 _ p240
  have R := C.2.1 r hr (by omega)
  have l48 := K.1 r hr
  have i240 : vp_in (nI (48 * r + t)) 240 := vp_in_nI p240 (by decide)
  have j240 : vp_in (nI (bl_yb r + t)) 240 := vp_in_nI q240 (by decide)
  have cp : (nI (48 * r + t)).toNatClampNeg = 48 * r + t := nI_clamp (by omega)
  have cq : (nI (bl_yb r + t)).toNatClampNeg = bl_yb r + t := nI_clamp (by omega)
  have hh := bl_St_le _ _ _ _ S
  have d3 : d < 300 := by omega
  have h3 : h < 320 := by omega
  have cd : (nI d).toNatClampNeg = d := nI_clamp (by omega)
  have ch : (nI h).toNatClampNeg = h := nI_clamp (by omega)
  have i3 : vp_in (nI d) 300 := vp_in_nI d3 (by decide)
  have j3 : vp_in (nI h) 320 := vp_in_nI h3 (by decide)
  have cl3 : cl < 1000 := by omega
  subst hxb
  refine ⟨(dl, lr, lc, (nI st), (nI d), (nI cl), (nI sc), 1, xa, xs, (fb d), xg, 0, kX, vX, df, pr, sp, pl, th, fc, fs, fb, (upd fd d 2), fv, fe, kp, kv, cc, cs, ss, sv, so), _, ?_, bl_mkG (s := s) C (by omega) hcl hst (by omega) So Co P V (bl_St_cg (Nat.le_refl _) (Nat.le_refl _) d h _ s (fun i hi => by simp only [bl_x, upd, vp_updL, if_neg (show ¬ i = d by omega)]) (fun _ _ => rfl) S) hg rfl, fun post hp => ?_⟩
  · omega
  · exact nm_r (nI_pred d) ⟨i3, nm_r (e' := nI (48 * r + t)) (by rw [cd, hfc]) ⟨i3, i3, nm_r (e' := upd fd d 2) (by rw [cd, hfd]; rfl) ⟨i240, nm_r (e' := 14) (by rw [cp, hk]) (br_f (by decide) (br_f (by decide) (br_f (by decide) (br_f (by decide) (br_f (by decide) (br_f (by decide) (br_f (by decide) (br_f (by decide) (br_f (by decide) (br_f (by decide) (br_f (by decide) (br_f (by decide) (br_f (by decide) (br_f (by decide) (br_t rfl ((bl_x_cl1 d3 hkp hp)))))))))))))))))⟩⟩⟩
end
end
section
/-! turns: an ending meets the frame on top -/
section
variable {dl lc xst xd xcl xsc xm xa xs xb xe yen ycl yw ym ya ys yk yv yc yt rk rv : Int32}
variable {lr xg : Int64}
variable {kX vX df pr sp th fc fs fb fd fe kp cc cs ss so kY nY en ln pk pv po cy cb gt ph ge gk gv bp ok ov ob : Nat → Int32}
variable {pl fv kv sv : Nat → Int64}
variable {L : Nat → Nat} {q d h sc cl st s r t m m2 p j b w e : Nat}
theorem bl_x_uc {pl' : Nat → Int64} (d3 : d < 300) (p240 : p < 240) (hfc : fc d = nI p) (h12 : kX p = 12 → ¬ xe = 16 + vX p) (h14 : kX p = 14 → fd d = 0 → 16 ≤ xe) (h15 : kX p = 15 → ¬ fd d = 0) (hc : ∀ post : SX → Prop, post (dl, lr, lc, xst, (nI d), xcl, xsc, xm, xa, xs, (fb d), xg, xe, kX, vX, df, pr, sp, pl', th, fc, fs, fb, fd, fv, fe, kp, kv, cc, cs, ss, sv, so) → wpX_closeFrame post (dl, lr, lc, xst, (nI (d + 1)), xcl, xsc, xm, xa, xs, xb, xg, xe, kX, vX, df, pr, sp, pl, th, fc, fs, fb, fd, fv, fe, kp, kv, cc, cs, ss, sv, so)) {post : SX → Prop} (hp : post (dl, lr, lc, xst, (nI d), xcl, xsc, xm, xa, xs, (fb d), xg, xe, kX, vX, df, pr, sp, pl', th, fc, fs, fb, fd, fv, fe, kp, kv, cc, cs, ss, sv, so)) : wpX_unwindFrame post (dl, lr, lc, xst, (nI (d + 1)), xcl, xsc, xm, xa, xs, xb, xg, xe, kX, vX, df, pr, sp, pl, th, fc, fs, fb, fd, fv, fe, kp, kv, cc, cs, ss, sv, so) := by
  have cd : (nI d).toNatClampNeg = d := nI_clamp (by omega)
  have cp : (nI p).toNatClampNeg = p := nI_clamp (by omega)
  have i3 : vp_in (nI d) 300 := vp_in_nI d3 (by decide)
  have i240 : vp_in (nI p) 240 := vp_in_nI p240 (by decide)
  refine nm_r (nI_pred d) ⟨i3, nm_r (e' := nI p) (by rw [cd, hfc]) ⟨i240, nm_r (e' := kX p) (by rw [cp]) ⟨i3, ?_⟩⟩⟩
  rw [cd]
  have c143 : wX_unwindFrame_143 post dl lr lc xst (nI (d + 1)) xcl xsc xm xa xs xb xg xe kX vX df pr sp pl th fc fs fb fd fv fe kp kv cc cs ss sv so := hc _ hp
  by_cases z : fd d = 0
  · have u124 : wX_unwindFrame_124 post (nI d) (kX p) 1 dl lr lc xst (nI (d + 1)) xcl xsc xm xa xs xb xg xe kX vX df pr sp pl th fc fs fb fd fv fe kp kv cc cs ss sv so := br_c (fun k => absurd z (h15 k)) (fun _ => c143)
    have u89 : wX_unwindFrame_89 post (nI d) (kX p) 1 dl lr lc xst (nI (d + 1)) xcl xsc xm xa xs xb xg xe kX vX df pr sp pl th fc fs fb fd fv fe kp kv cc cs ss sv so := br_c (fun k => br_f (by decide) (br_t (h14 k z) u124)) (fun _ => u124)
    refine br_t z (br_c (fun _ => hc _ hp) (fun _ => br_c (fun k => ⟨i240, ?_⟩) (fun _ => u89)))
    rw [cp]
    exact br_f (h12 k) u89
  · have u124 : wX_unwindFrame_124 post (nI d) (kX p) 0 dl lr lc xst (nI (d + 1)) xcl xsc xm xa xs xb xg xe kX vX df pr sp pl th fc fs fb fd fv fe kp kv cc cs ss sv so := br_c (fun k => br_t rfl c143) (fun _ => c143)
    have u89 : wX_unwindFrame_89 post (nI d) (kX p) 0 dl lr lc xst (nI (d + 1)) xcl xsc xm xa xs xb xg xe kX vX df pr sp pl th fc fs fb fd fv fe kp kv cc cs ss sv so := br_c (fun k => br_t rfl u124) (fun _ => u124)
    refine br_f z (br_c (fun _ => hc _ hp) (fun _ => br_c (fun k => ⟨i240, ?_⟩) (fun _ => u89)))
    rw [cp]
    exact br_f (h12 k) u89
theorem bl_y_ec {pk' pv' bp' : Nat → Int32} (h3 : h < 320) (q240 : p < 240) (hgt : gt h = nI p) (h12 : kY p = 12 → ¬ yt = nY p) (h14 : kY p = 14 → ph h = 0 → 0 ≤ yt) (h15 : kY p = 15 → ¬ ph h = 0) (hc : ∀ post : SY → Prop, post (yen, ycl, (nI (h + 1)), xb, xst, ym, ya, ys, yk, yv, yc, yt, rk, rv, kY, nY, en, ln, pr, sp, pk', pv', th, ss, po, so, cy, cb, cs, gt, ph, ge, gk, gv, bp', ok, ov, ob) → wpY_giveBack post (yen, ycl, (nI (h + 1)), xb, xst, ym, ya, ys, yk, yv, yc, yt, rk, rv, kY, nY, en, ln, pr, sp, pk, pv, th, ss, po, so, cy, cb, cs, gt, ph, ge, gk, gv, bp, ok, ov, ob) (nI h)) {post : SY → Prop} (hp : post (yen, ycl, (nI h), (ob h), xst, ym, ya, ys, yk, yv, yc, yt, rk, rv, kY, nY, en, ln, pr, sp, pk', pv', th, ss, po, so, cy, cb, cs, gt, ph, ge, gk, gv, bp', ok, ov, ob)) : wpY_end post (yen, ycl, (nI (h + 1)), xb, xst, ym, ya, ys, yk, yv, yc, yt, rk, rv, kY, nY, en, ln, pr, sp, pk, pv, th, ss, po, so, cy, cb, cs, gt, ph, ge, gk, gv, bp, ok, ov, ob) := by
  have ch : (nI h).toNatClampNeg = h := nI_clamp (by omega)
  have cq : (nI p).toNatClampNeg = p := nI_clamp (by omega)
  have j3 : vp_in (nI h) 320 := vp_in_nI h3 (by decide)
  have j240 : vp_in (nI p) 240 := vp_in_nI q240 (by decide)
  refine nm_r (nI_pred h) ⟨j3, nm_r (e' := nI p) (by rw [ch, hgt]) ⟨j240, nm_r (e' := kY p) (by rw [cq]) ⟨j3, ?_⟩⟩⟩
  rw [ch]
  by_cases z : ph h = 0
  · have u171 : wY_end_171 post (nI h) (nI p) (kY p) 1 yen ycl (nI h) (ob h) xst ym ya ys yk yv yc yt rk rv kY nY en ln pr sp pk' pv' th ss po so cy cb cs gt ph ge gk gv bp' ok ov ob := br_f (by decide) (br_c (fun k => br_t (h14 k z) hp) (fun _ => hp))
    have u127 : wY_end_127 post (nI h) (nI p) (kY p) 1 yen ycl (nI (h + 1)) (ob h) xst ym ya ys yk yv yc yt rk rv kY nY en ln pr sp pk' pv' th ss po so cy cb cs gt ph ge gk gv bp' ok ov ob := by
      refine nm_r (nI_pred h) (br_c (fun k => ⟨j240, ?_⟩) (fun _ => u171))
      rw [cq]
      exact br_f (h12 k) u171
    exact br_t z (hc _ ⟨j3, nm_r (e' := ob h) (by rw [ch]) (br_f (by decide) (br_c (fun k => absurd z (h15 k)) (fun _ => u127)))⟩)
  · have u171 : wY_end_171 post (nI h) (nI p) (kY p) 0 yen ycl (nI h) (ob h) xst ym ya ys yk yv yc yt rk rv kY nY en ln pr sp pk' pv' th ss po so cy cb cs gt ph ge gk gv bp' ok ov ob := br_t rfl hp
    have u127 : wY_end_127 post (nI h) (nI p) (kY p) 0 yen ycl (nI (h + 1)) (ob h) xst ym ya ys yk yv yc yt rk rv kY nY en ln pr sp pk' pv' th ss po so cy cb cs gt ph ge gk gv bp' ok ov ob := by
      refine nm_r (nI_pred h) (br_c (fun k => ⟨j240, ?_⟩) (fun _ => u171))
      rw [cq]
      exact br_f (h12 k) u171
    exact br_f z (hc _ ⟨j3, nm_r (e' := ob h) (by rw [ch]) (br_t rfl u127)⟩)
theorem bl_er_12 {P : Nat → Prop} (he : bl_er cl P xe xg yt yc yk yv) (hj : j < 4) : xe = 16 + nI j ↔ yt = nI j := by
  rw [show (16 : Int32) + nI j = nI (16 + j) from nI_add 16 j]
  rcases he with ⟨c, c1, c2, c3, c4, _⟩ | ⟨t, c1, c2, c3, _⟩
  · rw [c3, c4, nI_eq (by omega) (by omega)]
    exact ⟨fun z => by omega, fun z => absurd z.symm (bl_neg1 (by omega))⟩
  · rw [c2, c3, nI_eq (by omega) (by omega), nI_eq (by omega) (by omega)]
    omega
theorem bl_er_16 {P : Nat → Prop} (he : bl_er cl P xe xg yt yc yk yv) : 16 ≤ xe ↔ 0 ≤ yt := by
  rcases he with ⟨c, c1, c2, c3, c4, _⟩ | ⟨t, c1, c2, c3, _⟩
  · rw [c3, c4]
    exact ⟨fun z => absurd z (nI_ge (b := 16) (by omega) (by decide)), fun z => absurd z (by decide)⟩
  · rw [c2, c3]
    exact ⟨fun _ => nI_pos' (by omega), fun _ => nI_le (a := 16) (by omega) (by omega)⟩
theorem bl_er_v {P : Nat → Prop} (he : bl_er cl P xe xg yt yc yk yv) (h : 16 ≤ xe) : bl_vg cl xg yk yv := by
  rcases he with ⟨c, c1, c2, c3, c4, _⟩ | ⟨t, c1, c2, c3, c4, c5, c6⟩
  · rw [c3] at h
    exact absurd h (nI_ge (b := 16) (by omega) (by decide))
  · exact c6
theorem bl_er_5 {P : Nat → Prop} (he : bl_er cl P xe xg yt yc yk yv) : ¬ xe = 5 := by
  rcases he with ⟨c, c1, c2, c3, c4, _⟩ | ⟨t, c1, c2, c3, c4, c5, c6⟩
  · rw [c3]
    intro z
    have := (nI_eq (a := c) (b := 5) (by omega) (by decide)).mp z
    omega
  · rw [c2]
    intro z
    have := (nI_eq (a := 16 + t) (b := 5) (by omega) (by decide)).mp z
    omega
theorem bl_N_close (C : bl_Cf L dl kX vX df pr sp kY nY en ln) (hcl : cl ≤ st) (hst : st ≤ 300) (So : bl_So sp ss so po sc) (Co : bl_Co kX vX L cc cs cy cb sc cl) (P : bl_Po cl pl pk pv) (V : bl_Vo cl sc sv pk pv) (hd : d + 1 ≤ st) (hw : 3001 * sc + (w + s) ≤ 3010 * st) (S : bl_St kX vX L sc cl (bl_x fc fs fb fd fv fe kp kv) (bl_y gt ph ge gk gv bp ok ov ob) d h (fb d) s) (hen : bl_er cl (bl_hc kX vX (bl_x fc fs fb fd fv fe kp kv) (d + 1)) xe xg yt yc yk yv) (hr : r < 5) (ht : t < L r) (hfc : fc d = nI (48 * r + t)) (hgt : gt h = nI (bl_yb r + t)) (hge : fs d = ge h) (hfs : bl_sc sc (fs d)) (hob : fb d = ob h) (hw0 : 1 ≤ w) (hbd : bl_bd cl (kp d) (kv d) (bp h) (ok h) (ov h)) (hz : fd d = 0 ↔ ph h = 0) (n12 : kX (48 * r + t) = 12 → ¬ xe = 16 + vX (48 * r + t)) (n14 : kX (48 * r + t) = 14 → fd d = 0 → 16 ≤ xe) (n15 : kX (48 * r + t) = 15 → ¬ fd d = 0) : ∃ u' v' q, q < 3010 * (300 - st) + (w + s) ∧ bl_RR L q u' v' ∧ (∀ post : SX → Prop, post u' → wpX_unwindFrame post (dl, lr, lc, (nI st), (nI (d + 1)), (nI cl), (nI sc), 2, xa, xs, xb, xg, xe, kX, vX, df, pr, sp, pl, th, fc, fs, fb, fd, fv, fe, kp, kv, cc, cs, ss, sv, so)) ∧ (∀ post : SY → Prop, post v' → wpY_end post ((nI sc), (nI cl), (nI (h + 1)), xb, (nI st), 2, ya, ys, yk, yv, yc, yt, rk, rv, kY, nY, en, ln, pr, sp, pk, pv, th, ss, po, so, cy, cb, cs, gt, ph, ge, gk, gv, bp, ok, ov, ob)) := by
  have K := C.1
  have p240 := bl_pX K hr ht
  have q240 := bl_pY K hr ht
  have kq := (bl_kY K hr ht).1
  have nq := (bl_kY K hr ht).2
  have tk := K.2.2 _ p240
  have R := C.2.1 r hr (by omega)
  have l48 := K.1 r hr
  have i240 : vp_in (nI (48 * r + t)) 240 := vp_in_nI p240 (by decide)
  have j240 : vp_in (nI (bl_yb r + t)) 240 := vp_in_nI q240 (by decide)
  have cp : (nI (48 * r + t)).toNatClampNeg = 48 * r + t := nI_clamp (by omega)
  have cq : (nI (bl_yb r + t)).toNatClampNeg = bl_yb r + t := nI_clamp (by omega)
  have hh := bl_St_le _ _ _ _ S
  have d3 : d < 300 := by omega
  have h3 : h < 320 := by omega
  have cd : (nI d).toNatClampNeg = d := nI_clamp (by omega)
  have ch : (nI h).toNatClampNeg = h := nI_clamp (by omega)
  have i3 : vp_in (nI d) 300 := vp_in_nI d3 (by decide)
  have j3 : vp_in (nI h) 320 := vp_in_nI h3 (by decide)
  have cl3 : cl < 1000 := by omega
  have uq : ∀ p', p' < 240 → fc d = nI p' → p' = 48 * r + t := by
    intro p' l' e
    rw [hfc] at e
    exact ((nI_eq (by omega) (by omega)).mp e).symm
  obtain ⟨pl', pk', pv', bp', P', V', hbp, hX, hY⟩ := bl_close (dl := dl) (lr := lr) (lc := lc) (xst := nI st) (xcl := nI cl) (xsc := nI sc) (xm := 2) (xa := xa) (xs := xs) (xb := xb) (xg := xg) (xe := xe) (kX := kX) (vX := vX) (df := df) (pr := pr) (sp := sp) (pl := pl) (th := th) (fc := fc) (fs := fs) (fb := fb) (fd := fd) (fv := fv) (fe := fe) (kp := kp) (kv := kv) (cc := cc) (cs := cs) (ss := ss) (sv := sv) (so := so) (yen := nI sc) (ycl := nI cl) (yw := nI (h + 1)) (ym := 2) (ya := ya) (ys := ys) (yk := yk) (yv := yv) (yc := yc) (yt := yt) (rk := rk) (rv := rv) (kY := kY) (nY := nY) (en := en) (ln := ln) (pk := pk) (pv := pv) (po := po) (cy := cy) (cb := cb) (gt := gt) (ph := ph) (ge := ge) (gk := gk) (gv := gv) (bp := bp) (ok := ok) (ov := ov) (ob := ob) d3 h3 hbd P V
  refine ⟨(dl, lr, lc, (nI st), (nI d), (nI cl), (nI sc), 2, xa, xs, (fb d), xg, xe, kX, vX, df, pr, sp, pl', th, fc, fs, fb, fd, fv, fe, kp, kv, cc, cs, ss, sv, so), ((nI sc), (nI cl), (nI h), (fb d), (nI st), 2, ya, ys, yk, yv, yc, yt, rk, rv, kY, nY, en, ln, pr, sp, pk', pv', th, ss, po, so, cy, cb, cs, gt, ph, ge, gk, gv, bp', ok, ov, ob), _, ?_, bl_mkN (s := s) C (by omega) hcl hst (by omega) So Co P' V' (Or.inl ?_) (bl_er_dn hen ?_) rfl, fun post hp => bl_x_uc d3 p240 hfc n12 n14 n15 hX hp, fun post hp => bl_y_ec (p := bl_yb r + t) h3 q240 hgt ?_ ?_ ?_ hY ?_⟩
  · omega
  · exact bl_St_cg (Nat.le_refl _) (Nat.le_refl _) d h _ s (fun i hi => by simp only [bl_x, upd, vp_updL, if_neg (show ¬ i = d by omega)]) (fun i hi => by simp only [bl_y, upd, if_neg (show ¬ i = h by omega), hbp i (by omega)]) S
  · intro t' p' a1 a2 a3 a4 a5 a6
    have e := uq p' a3 a4
    subst e
    refine n12 a5 ?_
    rw [a6, a2]
    exact (nI_add 16 t').symm
  · intro k
    rw [kq] at k
    rw [nq]
    obtain ⟨j, hj, ej⟩ := bl_tk4 tk (Or.inr (Or.inl k))
    have := n12 k
    rw [ej] at this ⊢
    exact fun y => this ((bl_er_12 hen hj).mpr y)
  · intro k z
    rw [kq] at k
    exact (bl_er_16 hen).mp (n14 k (hz.mpr z))
  · intro k z
    rw [kq] at k
    exact n15 k (hz.mpr z)
  · rw [← hob]; exact hp
theorem bl_N_catch (C : bl_Cf L dl kX vX df pr sp kY nY en ln) (hcl : cl ≤ st) (hst : st ≤ 300) (So : bl_So sp ss so po sc) (Co : bl_Co kX vX L cc cs cy cb sc cl) (P : bl_Po cl pl pk pv) (V : bl_Vo cl sc sv pk pv) (hd : d + 1 ≤ st) (hw : 3001 * sc + (3009 + s) ≤ 3010 * st) (S : bl_St kX vX L sc cl (bl_x fc fs fb fd fv fe kp kv) (bl_y gt ph ge gk gv bp ok ov ob) d h (fb d) s) (hen : bl_er cl (bl_hc kX vX (bl_x fc fs fb fd fv fe kp kv) (d + 1)) xe xg yt yc yk yv) (hr : r < 5) (ht : t < L r) (hfc : fc d = nI (48 * r + t)) (hgt : gt h = nI (bl_yb r + t)) (hge : fs d = ge h) (hfs : bl_sc sc (fs d)) (hob : fb d = ob h) (hk : kX (48 * r + t) = 12) (hfd : fd d = 0) (hph : ph h = 0) (hkp : kp d = -1) (hbp : bp h = -1) (hxb : xb = fb d) (hm : xe = 16 + vX (48 * r + t)) : ∃ u' v' q, q < 3010 * (300 - st) + (3009 + s) ∧ bl_RR L q u' v' ∧ (∀ post : SX → Prop, post u' → wpX_unwindFrame post (dl, lr, lc, (nI st), (nI (d + 1)), (nI cl), (nI sc), 2, xa, xs, xb, xg, xe, kX, vX, df, pr, sp, pl, th, fc, fs, fb, fd, fv, fe, kp, kv, cc, cs, ss, sv, so)) ∧ (∀ post : SY → Prop, post v' → wpY_end post ((nI sc), (nI cl), (nI (h + 1)), xb, (nI st), 2, ya, ys, yk, yv, yc, yt, rk, rv, kY, nY, en, ln, pr, sp, pk, pv, th, ss, po, so, cy, cb, cs, gt, ph, ge, gk, gv, bp, ok, ov, ob)) := by
  have K := C.1
  have p240 := bl_pX K hr ht
  have q240 := bl_pY K hr ht
  have kq := (bl_kY K hr ht).1
  have nq := (bl_kY K hr ht).2
  have tk := K.2.2 _ p240
  have R := C.2.1 r hr (by omega)
  have l48 := K.1 r hr
  have i240 : vp_in (nI (48 * r + t)) 240 := vp_in_nI p240 (by decide)
  have j240 : vp_in (nI (bl_yb r + t)) 240 := vp_in_nI q240 (by decide)
  have cp : (nI (48 * r + t)).toNatClampNeg = 48 * r + t := nI_clamp (by omega)
  have cq : (nI (bl_yb r + t)).toNatClampNeg = bl_yb r + t := nI_clamp (by omega)
  have hh := bl_St_le _ _ _ _ S
  have d3 : d < 300 := by omega
  have h3 : h < 320 := by omega
  have cd : (nI d).toNatClampNeg = d := nI_clamp (by omega)
  have ch : (nI h).toNatClampNeg = h := nI_clamp (by omega)
  have i3 : vp_in (nI d) 300 := vp_in_nI d3 (by decide)
  have j3 : vp_in (nI h) 320 := vp_in_nI h3 (by decide)
  have cl3 : cl < 1000 := by omega
  subst hxb
  have n5 := bl_er_5 hen
  obtain ⟨j, hj, ej⟩ := bl_tk4 tk (by rw [hk]; decide)
  have hty : yt = nI j := (bl_er_12 hen hj).mp (by rw [hm, ej])
  have hg := bl_er_v hen (by rw [hm, ej, show (16 : Int32) + nI j = nI (16 + j) from nI_add 16 j]; exact nI_le (a := 16) (by omega) (by omega))
  refine ⟨(dl, lr, lc, (nI st), (nI d), (nI cl), (nI sc), 1, xa, xs, (fb d), xg, 0, kX, vX, df, pr, sp, pl, th, fc, fs, fb, fd, fv, fe, kp, kv, cc, cs, ss, sv, so), ((nI sc), (nI cl), (nI h), (fb d), (nI st), 0, ya, ys, yk, yv, yc, yt, rk, rv, kY, nY, en, ln, pr, sp, pk, pv, th, ss, po, so, cy, cb, cs, gt, ph, ge, gk, gv, bp, ok, ov, ob), _, ?_, bl_mkG (s := s) C (by omega) hcl hst (by omega) So Co P V S hg rfl, fun post hp => ?_, fun post hp => ?_⟩
  · omega
  · refine nm_r (nI_pred d) ⟨i3, nm_r (e' := nI (48 * r + t)) (by rw [cd, hfc]) ⟨i240, nm_r (e' := 12) (by rw [cp, hk]) ⟨i3, br_t (by rw [cd]; exact hfd) (br_f n5 (br_t rfl ⟨i240, ?_⟩))⟩⟩⟩
    rw [cp]
    exact br_t hm (bl_x_cl1 d3 hkp hp)
  · refine nm_r (nI_pred h) ⟨j3, nm_r (e' := nI (bl_yb r + t)) (by rw [ch, hgt]) ⟨j240, nm_r (e' := 12) (by rw [cq, kq, hk]) ⟨j3, br_t (by rw [ch]; exact hph) (bl_y_gb1 h3 hbp ⟨j3, nm_r (e' := fb d) (by rw [ch, hob]) (br_f (by decide) (br_f (by decide) (nm_r (nI_pred h) (br_t rfl ⟨j240, ?_⟩))))⟩)⟩⟩⟩
    rw [cq, nq, ej]
    exact br_t hty hp
theorem bl_N_try (C : bl_Cf L dl kX vX df pr sp kY nY en ln) (hcl : cl ≤ st) (hst : st ≤ 300) (So : bl_So sp ss so po sc) (Co : bl_Co kX vX L cc cs cy cb sc cl) (P : bl_Po cl pl pk pv) (V : bl_Vo cl sc sv pk pv) (hd : d + 1 ≤ st) (hw : 3001 * sc + (3009 + s) ≤ 3010 * st) (S : bl_St kX vX L sc cl (bl_x fc fs fb fd fv fe kp kv) (bl_y gt ph ge gk gv bp ok ov ob) d h (fb d) s) (hen : bl_er cl (bl_hc kX vX (bl_x fc fs fb fd fv fe kp kv) (d + 1)) xe xg yt yc yk yv) (hr : r < 5) (ht : t < L r) (hfc : fc d = nI (48 * r + t)) (hgt : gt h = nI (bl_yb r + t)) (hge : fs d = ge h) (hfs : bl_sc sc (fs d)) (hob : fb d = ob h) (hk : kX (48 * r + t) = 14) (hfd : fd d = 0) (hph : ph h = 0) (hkp : kp d = -1) (hbp : bp h = -1) (hxb : xb = fb d) (hm : ¬ 16 ≤ xe) : ∃ u' v' q, q < 3010 * (300 - st) + (3009 + s) ∧ bl_RR L q u' v' ∧ (∀ post : SX → Prop, post u' → wpX_unwindFrame post (dl, lr, lc, (nI st), (nI (d + 1)), (nI cl), (nI sc), 2, xa, xs, xb, xg, xe, kX, vX, df, pr, sp, pl, th, fc, fs, fb, fd, fv, fe, kp, kv, cc, cs, ss, sv, so)) ∧ (∀ post : SY → Prop, post v' → wpY_end post ((nI sc), (nI cl), (nI (h + 1)), xb, (nI st), 2, ya, ys, yk, yv, yc, yt, rk, rv, kY, nY, en, ln, pr, sp, pk, pv, th, ss, po, so, cy, cb, cs, gt, ph, ge, gk, gv, bp, ok, ov, ob)) := by
  have K := C.1
  have p240 := bl_pX K hr ht
  have q240 := bl_pY K hr ht
  have kq := (bl_kY K hr ht).1
  have nq := (bl_kY K hr ht).2
  have tk := K.2.2 _ p240
  have R := C.2.1 r hr (by omega)
  have l48 := K.1 r hr
  have i240 : vp_in (nI (48 * r + t)) 240 := vp_in_nI p240 (by decide)
  have j240 : vp_in (nI (bl_yb r + t)) 240 := vp_in_nI q240 (by decide)
  have cp : (nI (48 * r + t)).toNatClampNeg = 48 * r + t := nI_clamp (by omega)
  have cq : (nI (bl_yb r + t)).toNatClampNeg = bl_yb r + t := nI_clamp (by omega)
  have hh := bl_St_le _ _ _ _ S
  have d3 : d < 300 := by omega
  have h3 : h < 320 := by omega
  have cd : (nI d).toNatClampNeg = d := nI_clamp (by omega)
  have ch : (nI h).toNatClampNeg = h := nI_clamp (by omega)
  have i3 : vp_in (nI d) 300 := vp_in_nI d3 (by decide)
  have j3 : vp_in (nI h) 320 := vp_in_nI h3 (by decide)
  have cl3 : cl < 1000 := by omega
  subst hxb
  have n5 := bl_er_5 hen
  have nt : ¬ 0 ≤ yt := fun z => hm ((bl_er_16 hen).mpr z)
  have ka : 1 < bl_ar (kX (48 * r + t)) := by rw [hk]; decide
  have t1 := bl_p0 R ht (by omega)
  have y1 := bl_pY K hr t1
  obtain ⟨m, hm2, E1, he⟩ := bl_p1 R ht ka
  refine ⟨(dl, lr, lc, (nI st), (nI (d + 1)), (nI cl), (nI sc), 0, (nI (48 * r + m)), (fs d), (fb d), xg, xe, kX, vX, df, pr, sp, pl, th, fc, fs, fb, (upd fd d 1), fv, fe, kp, kv, cc, cs, ss, sv, so), ((nI sc), (nI cl), (nI h), (fb d), (nI st), 1, (nI (bl_yb r + m)), (fs d), yk, yv, yc, yt, rk, rv, kY, nY, en, ln, pr, sp, pk, pv, th, ss, po, so, cy, cb, cs, gt, ph, ge, gk, gv, bp, ok, ov, ob), _, ?_, bl_mkE (s := 6 + s) C (by omega) hcl hst (by omega) So Co P V ?_ hfs hr hm2 rfl, fun post hp => ?_, fun post hp => ?_⟩
  · omega
  · exact Or.inl ⟨s, rfl, ⟨r, t, hr, ht, hfc, Or.inr (Or.inr hk), pk_us, hkp, rfl⟩, bl_St_cg (Nat.le_refl _) (Nat.le_refl _) d h _ s (fun i hi => by simp only [bl_x, upd, vp_updL, if_neg (show ¬ i = d by omega)]) (fun _ _ => rfl) S⟩
  · exact nm_r (nI_pred d) ⟨i3, nm_r (e' := nI (48 * r + t)) (by rw [cd, hfc]) ⟨i240, nm_r (e' := 14) (by rw [cp, hk]) ⟨i3, br_t (by rw [cd]; exact hfd) (br_f n5 (br_f (by decide) (br_t rfl (br_f (by decide) (br_f hm ⟨i3, nm_r (e' := upd fd d 1) (by rw [cd]) (bl_x_sp2 K.2.2 hr (by omega) E1 d3 p240 hfc hp)⟩)))))⟩⟩⟩
  · refine nm_r (nI_pred h) ⟨j3, nm_r (e' := nI (bl_yb r + t)) (by rw [ch, hgt]) ⟨j240, nm_r (e' := 14) (by rw [cq, kq, hk]) ⟨j3, br_t (by rw [ch]; exact hph) (bl_y_gb1 h3 hbp ⟨j3, nm_r (e' := fb d) (by rw [ch, hob]) (br_f (by decide) (br_f (by decide) (nm_r (nI_pred h) (br_f (by decide) (br_f (by decide) (br_t rfl (br_f nt (bl_y_op1 y1 he ⟨j3, ?_⟩))))))))⟩)⟩⟩⟩
    rw [ch, ← hge]; exact hp
theorem bl_N_prot (C : bl_Cf L dl kX vX df pr sp kY nY en ln) (hcl : cl ≤ st) (hst : st ≤ 300) (So : bl_So sp ss so po sc) (Co : bl_Co kX vX L cc cs cy cb sc cl) (P : bl_Po cl pl pk pv) (V : bl_Vo cl sc sv pk pv) (hd : d + 1 ≤ st) (hw : 3001 * sc + (3009 + s) ≤ 3010 * st) (S : bl_St kX vX L sc cl (bl_x fc fs fb fd fv fe kp kv) (bl_y gt ph ge gk gv bp ok ov ob) d h (fb d) s) (hen : bl_er cl (bl_hc kX vX (bl_x fc fs fb fd fv fe kp kv) (d + 1)) xe xg yt yc yk yv) (hr : r < 5) (ht : t < L r) (hfc : fc d = nI (48 * r + t)) (hgt : gt h = nI (bl_yb r + t)) (hge : fs d = ge h) (hfs : bl_sc sc (fs d)) (hob : fb d = ob h) (hk : kX (48 * r + t) = 15) (hfd : fd d = 0) (hph : ph h = 0) (hkp : kp d = -1) (hbp : bp h = -1) (hxb : xb = fb d) : ∃ u' v' q, q < 3010 * (300 - st) + (3009 + s) ∧ bl_RR L q u' v' ∧ (∀ post : SX → Prop, post u' → wpX_unwindFrame post (dl, lr, lc, (nI st), (nI (d + 1)), (nI cl), (nI sc), 2, xa, xs, xb, xg, xe, kX, vX, df, pr, sp, pl, th, fc, fs, fb, fd, fv, fe, kp, kv, cc, cs, ss, sv, so)) ∧ (∀ post : SY → Prop, post v' → wpY_end post ((nI sc), (nI cl), (nI (h + 1)), xb, (nI st), 2, ya, ys, yk, yv, yc, yt, rk, rv, kY, nY, en, ln, pr, sp, pk, pv, th, ss, po, so, cy, cb, cs, gt, ph, ge, gk, gv, bp, ok, ov, ob)) := by
  have K := C.1
  have p240 := bl_pX K hr ht
  have q240 := bl_pY K hr ht
  have kq := (bl_kY K hr ht).1
  have nq := (bl_kY K hr ht).2
  have tk := K.2.2 _ p240
  have R := C.2.1 r hr (by omega)
  have l48 := K.1 r hr
  have i240 : vp_in (nI (48 * r + t)) 240 := vp_in_nI p240 (by decide)
  have j240 : vp_in (nI (bl_yb r + t)) 240 := vp_in_nI q240 (by decide)
  have cp : (nI (48 * r + t)).toNatClampNeg = 48 * r + t := nI_clamp (by omega)
  have cq : (nI (bl_yb r + t)).toNatClampNeg = bl_yb r + t := nI_clamp (by omega)
  have hh := bl_St_le _ _ _ _ S
  have d3 : d < 300 := by omega
  have h3 : h < 320 := by omega
  have cd : (nI d).toNatClampNeg = d := nI_clamp (by omega)
  have ch : (nI h).toNatClampNeg = h := nI_clamp (by omega)
  have i3 : vp_in (nI d) 300 := vp_in_nI d3 (by decide)
  have j3 : vp_in (nI h) 320 := vp_in_nI h3 (by decide)
  have cl3 : cl < 1000 := by omega
  have uq : ∀ p', p' < 240 → fc d = nI p' → p' = 48 * r + t := by
    intro p' l' e
    rw [hfc] at e
    exact ((nI_eq (by omega) (by omega)).mp e).symm
  subst hxb
  have n5 := bl_er_5 hen
  have ka : 1 < bl_ar (kX (48 * r + t)) := by rw [hk]; decide
  have t1 := bl_p0 R ht (by omega)
  have y1 := bl_pY K hr t1
  obtain ⟨m, hm, E1, he⟩ := bl_p1 R ht ka
  refine ⟨(dl, lr, lc, (nI st), (nI (d + 1)), (nI cl), (nI sc), 0, (nI (48 * r + m)), (fs d), (fb d), xg, xe, kX, vX, df, pr, sp, pl, th, fc, fs, fb, (upd fd d 1), (vp_updL fv d xg), (upd fe d xe), kp, kv, cc, cs, ss, sv, so), ((nI sc), (nI cl), (nI (h + 1)), (fb d), (nI st), 1, (nI (bl_yb r + m)), (fs d), yk, yv, yc, yt, rk, rv, kY, nY, en, ln, pr, sp, pk, pv, th, ss, po, so, cy, cb, cs, gt, (upd ph h 2), ge, (upd gk h yk), (upd gv h yv), bp, (upd ok h yt), (upd ov h yc), ob), _, ?_, bl_mkE (s := 6 + s) C (by omega) hcl hst (by omega) So Co P V ?_ hfs hr hm rfl, fun post hp => ?_, fun post hp => ?_⟩
  · omega
  · refine bl_St_mk (r := r) (t := t) (e := 1) hr ht hfc hgt hge hfs hob pk_us (by rw [hk]; decide) (by rw [hk]; rfl) (Or.inr (Or.inr (Or.inr (Or.inr (Or.inr ⟨rfl, pk_us, hk, hkp, hbp, ?_⟩))))) (bl_St_cg (Nat.le_refl _) (Nat.le_refl _) d h _ s (fun i hi => by simp only [bl_x, upd, vp_updL, if_neg (show ¬ i = d by omega)]) (fun i hi => by simp only [bl_y, upd, if_neg (show ¬ i = h by omega)]) S)
    rw [pk_us, pk_uLs, pk_us, pk_us, pk_us, pk_us]
    refine bl_er_up (Nat.le_refl _) (fun t => bl_hc_cg (fun i hi => by simp only [bl_x, upd, vp_updL, if_neg (show ¬ i = d by omega)])) (bl_er_dn hen ?_)
    intro t' p' a1 a2 a3 a4 a5
    rw [uq p' a3 a4, hk] at a5
    exact absurd a5 (by decide)
  · exact nm_r (nI_pred d) ⟨i3, nm_r (e' := nI (48 * r + t)) (by rw [cd, hfc]) ⟨i240, nm_r (e' := 15) (by rw [cp, hk]) ⟨i3, br_t (by rw [cd]; exact hfd) (br_f n5 (br_f (by decide) (br_f (by decide) (br_t rfl (br_f (by decide) ⟨i3, nm_r (e' := upd fd d 1) (by rw [cd]) ⟨i3, nm_r (e' := vp_updL fv d xg) (by rw [cd]) ⟨i3, nm_r (e' := upd fe d xe) (by rw [cd]) (bl_x_sp2 K.2.2 hr (by omega) E1 d3 p240 hfc hp)⟩⟩⟩)))))⟩⟩⟩
  · refine nm_r (nI_pred h) ⟨j3, nm_r (e' := nI (bl_yb r + t)) (by rw [ch, hgt]) ⟨j240, nm_r (e' := 15) (by rw [cq, kq, hk]) ⟨j3, br_t (by rw [ch]; exact hph) (bl_y_gb1 h3 hbp ⟨j3, nm_r (e' := fb d) (by rw [ch, hob]) (br_f (by decide) (br_t rfl ⟨j3, nm_r (e' := upd ph h 2) (by rw [ch]) ⟨j3, nm_r (e' := upd ok h yt) (by rw [ch]) ⟨j3, nm_r (e' := upd ov h yc) (by rw [ch]) ⟨j3, nm_r (e' := upd gk h yk) (by rw [ch]) ⟨j3, nm_r (e' := upd gv h yv) (by rw [ch]) (bl_y_op1 y1 he ⟨j3, ?_⟩)⟩⟩⟩⟩⟩))⟩)⟩⟩⟩
    rw [ch, ← hge]; exact hp
theorem bl_N_inert (C : bl_Cf L dl kX vX df pr sp kY nY en ln) (hcl : cl ≤ st) (hst : st ≤ 300) (So : bl_So sp ss so po sc) (Co : bl_Co kX vX L cc cs cy cb sc cl) (P : bl_Po cl pl pk pv) (V : bl_Vo cl sc sv pk pv) (hd : d + 1 ≤ st) (hw : 3001 * sc + (6 + s) ≤ 3010 * st) (S : bl_St kX vX L sc cl (bl_x fc fs fb fd fv fe kp kv) (bl_y gt ph ge gk gv bp ok ov ob) d h (fb d) s) (hen : bl_er cl (bl_hc kX vX (bl_x fc fs fb fd fv fe kp kv) (d + 1)) xe xg yt yc yk yv) (hr : r < 5) (ht : t < L r) (hfc : fc d = nI (48 * r + t)) (hk : kX (48 * r + t) = 7 ∨ kX (48 * r + t) = 8 ∨ kX (48 * r + t) = 14) (hfd : fd d = 1) (hkp : kp d = -1) (hxb : xb = fb d) : ∃ u' q, q < 3010 * (300 - st) + (6 + s) ∧ bl_RR L q u' ((nI sc), (nI cl), (nI h), xb, (nI st), 2, ya, ys, yk, yv, yc, yt, rk, rv, kY, nY, en, ln, pr, sp, pk, pv, th, ss, po, so, cy, cb, cs, gt, ph, ge, gk, gv, bp, ok, ov, ob) ∧ (∀ post : SX → Prop, post u' → wpX_unwindFrame post (dl, lr, lc, (nI st), (nI (d + 1)), (nI cl), (nI sc), 2, xa, xs, xb, xg, xe, kX, vX, df, pr, sp, pl, th, fc, fs, fb, fd, fv, fe, kp, kv, cc, cs, ss, sv, so)) := by
  have K := C.1
  have p240 := bl_pX K hr ht
  have q240 := bl_pY K hr ht
  have kq := (bl_kY K hr ht).1
  have nq := (bl_kY K hr ht).2
  have tk := K.2.2 _ p240
  have R := C.2.1 r hr (by omega)
  have l48 := K.1 r hr
  have i240 : vp_in (nI (48 * r + t)) 240 := vp_in_nI p240 (by decide)
  have j240 : vp_in (nI (bl_yb r + t)) 240 := vp_in_nI q240 (by decide)
  have cp : (nI (48 * r + t)).toNatClampNeg = 48 * r + t := nI_clamp (by omega)
  have cq : (nI (bl_yb r + t)).toNatClampNeg = bl_yb r + t := nI_clamp (by omega)
  have hh := bl_St_le _ _ _ _ S
  have d3 : d < 300 := by omega
  have h3 : h < 320 := by omega
  have cd : (nI d).toNatClampNeg = d := nI_clamp (by omega)
  have ch : (nI h).toNatClampNeg = h := nI_clamp (by omega)
  have i3 : vp_in (nI d) 300 := vp_in_nI d3 (by decide)
  have j3 : vp_in (nI h) 320 := vp_in_nI h3 (by decide)
  have cl3 : cl < 1000 := by omega
  have uq : ∀ p', p' < 240 → fc d = nI p' → p' = 48 * r + t := by
    intro p' l' e
    rw [hfc] at e
    exact ((nI_eq (by omega) (by omega)).mp e).symm
  have nk : ¬ kX (48 * r + t) = 12 ∧ ¬ kX (48 * r + t) = 15 := by
    rcases hk with z | z | z <;> rw [z] <;> decide
  obtain ⟨n12, n15⟩ := nk
  subst hxb
  refine ⟨(dl, lr, lc, (nI st), (nI d), (nI cl), (nI sc), 2, xa, xs, (fb d), xg, xe, kX, vX, df, pr, sp, pl, th, fc, fs, fb, fd, fv, fe, kp, kv, cc, cs, ss, sv, so), _, ?_, bl_mkN (s := s) C (by omega) hcl hst (by omega) So Co P V (Or.inl S) (bl_er_dn hen ?_) rfl, fun post hp => bl_x_uc (pl' := pl) d3 p240 hfc (fun z => absurd z n12) (fun _ z => by rw [hfd] at z; exact absurd z (by decide)) (fun z => absurd z n15) (fun post hp => bl_x_cl1 d3 hkp hp) hp⟩
  · omega
  · intro t' p' a1 a2 a3 a4 a5
    rw [uq p' a3 a4] at a5
    exact absurd a5 n12
theorem bl_N_trans (C : bl_Cf L dl kX vX df pr sp kY nY en ln) (hcl : cl ≤ st) (hst : st ≤ 300) (So : bl_So sp ss so po sc) (Co : bl_Co kX vX L cc cs cy cb sc cl) (P : bl_Po cl pl pk pv) (V : bl_Vo cl sc sv pk pv) (hd : d + 1 ≤ st) (hw : 3001 * sc + (1 + s) ≤ 3010 * st) (S : bl_St kX vX L sc cl (bl_x fc fs fb fd fv fe kp kv) (bl_y gt ph ge gk gv bp ok ov ob) d h (fb d) s) (hen : bl_er cl (bl_hc kX vX (bl_x fc fs fb fd fv fe kp kv) (d + 1)) xe xg yt yc yk yv) (hr : r < 5) (ht : t < L r) (hfc : fc d = nI (48 * r + t)) (hk : kX (48 * r + t) = 5 ∨ kX (48 * r + t) = 6 ∨ kX (48 * r + t) = 9 ∨ kX (48 * r + t) = 10 ∨ kX (48 * r + t) = 11 ∨ kX (48 * r + t) = 13) (hkp : kp d = -1) (hxb : xb = fb d) : ∃ u' q, q < 3010 * (300 - st) + (1 + s) ∧ bl_RR L q u' ((nI sc), (nI cl), (nI h), xb, (nI st), 2, ya, ys, yk, yv, yc, yt, rk, rv, kY, nY, en, ln, pr, sp, pk, pv, th, ss, po, so, cy, cb, cs, gt, ph, ge, gk, gv, bp, ok, ov, ob) ∧ (∀ post : SX → Prop, post u' → wpX_unwindFrame post (dl, lr, lc, (nI st), (nI (d + 1)), (nI cl), (nI sc), 2, xa, xs, xb, xg, xe, kX, vX, df, pr, sp, pl, th, fc, fs, fb, fd, fv, fe, kp, kv, cc, cs, ss, sv, so)) := by
  have K := C.1
  have p240 := bl_pX K hr ht
  have q240 := bl_pY K hr ht
  have kq := (bl_kY K hr ht).1
  have nq := (bl_kY K hr ht).2
  have tk := K.2.2 _ p240
  have R := C.2.1 r hr (by omega)
  have l48 := K.1 r hr
  have i240 : vp_in (nI (48 * r + t)) 240 := vp_in_nI p240 (by decide)
  have j240 : vp_in (nI (bl_yb r + t)) 240 := vp_in_nI q240 (by decide)
  have cp : (nI (48 * r + t)).toNatClampNeg = 48 * r + t := nI_clamp (by omega)
  have cq : (nI (bl_yb r + t)).toNatClampNeg = bl_yb r + t := nI_clamp (by omega)
  have hh := bl_St_le _ _ _ _ S
  have d3 : d < 300 := by omega
  have h3 : h < 320 := by omega
  have cd : (nI d).toNatClampNeg = d := nI_clamp (by omega)
  have ch : (nI h).toNatClampNeg = h := nI_clamp (by omega)
  have i3 : vp_in (nI d) 300 := vp_in_nI d3 (by decide)
  have j3 : vp_in (nI h) 320 := vp_in_nI h3 (by decide)
  have cl3 : cl < 1000 := by omega
  have uq : ∀ p', p' < 240 → fc d = nI p' → p' = 48 * r + t := by
    intro p' l' e
    rw [hfc] at e
    exact ((nI_eq (by omega) (by omega)).mp e).symm
  have nk : ¬ kX (48 * r + t) = 12 ∧ ¬ kX (48 * r + t) = 15 ∧ ¬ kX (48 * r + t) = 14 := by
    rcases hk with z | z | z | z | z | z <;> rw [z] <;> decide
  obtain ⟨n12, n15, n14⟩ := nk
  subst hxb
  refine ⟨(dl, lr, lc, (nI st), (nI d), (nI cl), (nI sc), 2, xa, xs, (fb d), xg, xe, kX, vX, df, pr, sp, pl, th, fc, fs, fb, fd, fv, fe, kp, kv, cc, cs, ss, sv, so), _, ?_, bl_mkN (s := s) C (by omega) hcl hst (by omega) So Co P V (Or.inl S) (bl_er_dn hen ?_) rfl, fun post hp => bl_x_uc (pl' := pl) d3 p240 hfc (fun z => absurd z n12) (fun z _ => absurd z n14) (fun z => absurd z n15) (fun post hp => bl_x_cl1 d3 hkp hp) hp⟩
  · omega
  · intro t' p' a1 a2 a3 a4 a5
    rw [uq p' a3 a4] at a5
    exact absurd a5 n12
end
end
section
/-! which turn is due -/
section
variable {dl lc xst xd xcl xsc xm xa xs xb xe yen ycl yw ym ya ys yk yv yc yt rk rv : Int32}
variable {lr xg : Int64}
variable {kX vX df pr sp th fc fs fb fd fe kp cc cs ss so kY nY en ln pk pv po cy cb gt ph ge gk gv bp ok ov ob : Nat → Int32}
variable {pl fv kv sv : Nat → Int64}
variable {L : Nat → Nat} {q d h sc cl st s r t m m2 p j b w e : Nat}
theorem bl_TE (C : bl_Cf L dl kX vX df pr sp kY nY en ln) (hcl : cl ≤ st) (hst : st ≤ 300) (So : bl_So sp ss so po sc) (Co : bl_Co kX vX L cc cs cy cb sc cl) (P : bl_Po cl pl pk pv) (V : bl_Vo cl sc sv pk pv) (hd : d ≤ st) (hw : 3001 * sc + s ≤ 3010 * st) (S : bl_St kX vX L sc cl (bl_x fc fs fb fd fv fe kp kv) (bl_y gt ph ge gk gv bp ok ov ob) d h xb s) (hs : bl_sc sc xs) (hr : r < 5) (ht : t < L r) : ∃ u' v' q, q < 3010 * (300 - st) + s + 1 ∧ bl_RR L q u' v' ∧ (∀ post : SX → Prop, post u' → wpX_enterToken post (dl, lr, lc, (nI st), (nI d), (nI cl), (nI sc), 0, (nI (48 * r + t)), xs, xb, xg, xe, kX, vX, df, pr, sp, pl, th, fc, fs, fb, fd, fv, fe, kp, kv, cc, cs, ss, sv, so)) ∧ (∀ post : SY → Prop, post v' → wpY_evaluate post ((nI sc), (nI cl), (nI h), xb, (nI st), 1, (nI (bl_yb r + t)), xs, yk, yv, yc, yt, rk, rv, kY, nY, en, ln, pr, sp, pk, pv, th, ss, po, so, cy, cb, cs, gt, ph, ge, gk, gv, bp, ok, ov, ob)) := by
  by_cases h3 : st = 300
  · exact bl_E_long C hcl hst So Co P V hd hw S hs hr ht h3
  · have h3 : st < 300 := by omega
    have tk := C.1.2.2 _ (bl_pX C.1 hr ht)
    rcases tk with (hk | hk | hk | hk | hk | hk | hk | hk | hk | hk) | ⟨(hk | hk | hk | hk | hk), _⟩ | ⟨(hk | hk | hk), _⟩ | ⟨hk, _⟩
    · exact bl_E_num C hcl hst So Co P V hd hw S hs hr ht h3 hk
    · exact bl_E_open C hcl hst So Co P V hd hw S hs hr ht h3 (by rw [hk]; decide)
    · exact bl_E_open C hcl hst So Co P V hd hw S hs hr ht h3 (by rw [hk]; decide)
    · exact bl_E_open C hcl hst So Co P V hd hw S hs hr ht h3 (by rw [hk]; decide)
    · exact bl_E_open C hcl hst So Co P V hd hw S hs hr ht h3 (by rw [hk]; decide)
    · exact bl_E_open C hcl hst So Co P V hd hw S hs hr ht h3 (by rw [hk]; decide)
    · exact bl_E_open C hcl hst So Co P V hd hw S hs hr ht h3 (by rw [hk]; decide)
    · exact bl_E_open C hcl hst So Co P V hd hw S hs hr ht h3 (by rw [hk]; decide)
    · exact bl_E_open C hcl hst So Co P V hd hw S hs hr ht h3 (by rw [hk]; decide)
    · exact bl_E_fail C hcl hst So Co P V hd hw S hs hr ht h3 hk
    · exact bl_E_var C hcl hst So Co P V hd hw S hs hr ht h3 hk
    · exact bl_E_open C hcl hst So Co P V hd hw S hs hr ht h3 (by rw [hk]; decide)
    · exact bl_E_open C hcl hst So Co P V hd hw S hs hr ht h3 (by rw [hk]; decide)
    · exact bl_E_fun C hcl hst So Co P V hd hw S hs hr ht h3 hk
    · exact bl_E_open C hcl hst So Co P V hd hw S hs hr ht h3 (by rw [hk]; decide)
    · exact bl_E_open C hcl hst So Co P V hd hw S hs hr ht h3 (by rw [hk]; decide)
    · exact bl_E_open C hcl hst So Co P V hd hw S hs hr ht h3 (by rw [hk]; decide)
    · exact bl_E_open C hcl hst So Co P V hd hw S hs hr ht h3 (by rw [hk]; decide)
    · exact bl_E_open C hcl hst So Co P V hd hw S hs hr ht h3 (by rw [hk]; decide)
theorem bl_TG (C : bl_Cf L dl kX vX df pr sp kY nY en ln) (hcl : cl ≤ st) (hst : st ≤ 300) (So : bl_So sp ss so po sc) (Co : bl_Co kX vX L cc cs cy cb sc cl) (P : bl_Po cl pl pk pv) (V : bl_Vo cl sc sv pk pv) (hd : d + 1 ≤ st) (hw : 3001 * sc + s ≤ 3010 * st) (S : bl_St kX vX L sc cl (bl_x fc fs fb fd fv fe kp kv) (bl_y gt ph ge gk gv bp ok ov ob) (d + 1) h xb s) (hg : bl_vg cl xg yk yv) : (∃ u' q, q < 3010 * (300 - st) + s ∧ bl_RR L q u' ((nI sc), (nI cl), (nI h), xb, (nI st), 0, ya, ys, yk, yv, yc, yt, rk, rv, kY, nY, en, ln, pr, sp, pk, pv, th, ss, po, so, cy, cb, cs, gt, ph, ge, gk, gv, bp, ok, ov, ob) ∧ (∀ post : SX → Prop, post u' → wpX_resumeFrame post (dl, lr, lc, (nI st), (nI (d + 1)), (nI cl), (nI sc), 1, xa, xs, xb, xg, 0, kX, vX, df, pr, sp, pl, th, fc, fs, fb, fd, fv, fe, kp, kv, cc, cs, ss, sv, so))) ∨ (∃ h', h = h' + 1 ∧ ∃ u' v' q, q < 3010 * (300 - st) + s ∧ bl_RR L q u' v' ∧ (∀ post : SX → Prop, post u' → wpX_resumeFrame post (dl, lr, lc, (nI st), (nI (d + 1)), (nI cl), (nI sc), 1, xa, xs, xb, xg, 0, kX, vX, df, pr, sp, pl, th, fc, fs, fb, fd, fv, fe, kp, kv, cc, cs, ss, sv, so)) ∧ (∀ post : SY → Prop, post v' → wpY_give post ((nI sc), (nI cl), (nI h), xb, (nI st), 0, ya, ys, yk, yv, yc, yt, rk, rv, kY, nY, en, ln, pr, sp, pk, pv, th, ss, po, so, cy, cb, cs, gt, ph, ge, gk, gv, bp, ok, ov, ob))) := by
  rcases S with ⟨s', rfl, hi, S⟩ | ⟨h', s', w, rfl, rfl, hl, S⟩
  · obtain ⟨r, t, hr, ht, hfc, hk, hfd, hkp, hfb⟩ := hi
    have S : bl_St kX vX L sc cl (bl_x fc fs fb fd fv fe kp kv) (bl_y gt ph ge gk gv bp ok ov ob) d h (fb d) s' := by rw [hfb]; exact S
    rcases hk with hk | hk | hk
    · exact Or.inl (bl_G_inert7 C hcl hst So Co P V hd hw S hg hr ht hfc hk hfd hkp hfb.symm)
    · exact Or.inl (bl_G_inert8 C hcl hst So Co P V hd hw S hg hr ht hfc hk hfd hkp hfb.symm)
    · exact Or.inl (bl_G_inert14 C hcl hst So Co P V hd hw S hg hr ht hfc hk hfd hkp hfb.symm)
  · obtain ⟨r, t, e, hr, ht, hfc, hgt, hge, hfs, hob, hfd, hwt, hb, hph⟩ := hl
    have S : bl_St kX vX L sc cl (bl_x fc fs fb fd fv fe kp kv) (bl_y gt ph ge gk gv bp ok ov ob) d h' (fb d) s' := S
    have tk := C.1.2.2 _ (bl_pX C.1 hr ht)
    have hxb : ¬ kX (48 * r + t) = 16 → xb = fb d := fun z => hb.trans (if_neg z)
    refine Or.inr ⟨h', rfl, ?_⟩
    rcases hph with ⟨rfl, hp, hk, hkp, hbp⟩ | ⟨rfl, hp, hk, hbd⟩ | ⟨rfl, hp, hk, hkp, hbp, hv⟩ | ⟨rfl, hp, hk, hbd⟩ | ⟨rfl, hp, hk, hkp, hbp, hfe, hv⟩ | ⟨rfl, hp, hk, hkp, hbp, he⟩
    · have e : w = 3009 := by rw [hwt]; simp [bl_wt]
      subst e
      rcases hk with hk | hk | hk | hk | hk | hk | hk | hk | hk | hk | hk | hk | hk | hk | hk
      · exact bl_G_set C hcl hst So Co P V hd hw S hg hr ht hfc hgt hge hfs hob hk hfd hp hkp hbp (hxb (by rw [hk]; decide))
      · exact bl_G_let C hcl hst So Co P V hd hw S hg hr ht hfc hgt hge hfs hob hk hfd hp hkp hbp (hxb (by rw [hk]; decide))
      · exact bl_G_keep5 C hcl hst So Co P V hd hw S hg hr ht hfc hgt hge hfs hob hk hfd hp hkp hbp (hxb (by rw [hk]; decide))
      · obtain ⟨k, hk4, ek⟩ := bl_tk4 tk (by rw [hk]; decide)
        obtain ⟨j, hj, ej⟩ := C.2.2.2.1 k hk4
        rcases C.2.2.1 k hk4 with ⟨f1, f2, f3⟩ | ⟨f1, f2, f3⟩
        · exact bl_G_miss C hcl hst So Co P V hd hw S hg hr ht hfc hgt hge hfs hob hk hfd hp hkp hbp (hxb (by rw [hk]; decide)) hk4 ek f1 f3
        · exact bl_G_named C hcl hst So Co P V hd hw S hg hr ht hfc hgt hge hfs hob hk hfd hp hkp hbp (hxb (by rw [hk]; decide)) hk4 ek hj ej f1 f3 f2
      · exact bl_G_seq C hcl hst So Co P V hd hw S hg hr ht hfc hgt hge hfs hob hk hfd hp hkp hbp (hxb (by rw [hk]; decide))
      · exact bl_G_if C hcl hst So Co P V hd hw S hg hr ht hfc hgt hge hfs hob hk hfd hp hkp hbp (hxb (by rw [hk]; decide))
      · exact bl_G_keep9 C hcl hst So Co P V hd hw S hg hr ht hfc hgt hge hfs hob hk hfd hp hkp hbp (hxb (by rw [hk]; decide))
      · exact bl_G_keep10 C hcl hst So Co P V hd hw S hg hr ht hfc hgt hge hfs hob hk hfd hp hkp hbp (hxb (by rw [hk]; decide))
      · exact bl_G_keep11 C hcl hst So Co P V hd hw S hg hr ht hfc hgt hge hfs hob hk hfd hp hkp hbp (hxb (by rw [hk]; decide))
      · exact bl_G_close12 C hcl hst So Co P V hd hw S hg hr ht hfc hgt hge hfs hob hk hfd hp (Or.inl ⟨hkp, hbp⟩)
      · exact bl_G_throw C hcl hst So Co P V hd hw S hg hr ht hfc hgt hge hfs hob hk hfd hp hkp hbp (hxb (by rw [hk]; decide))
      · exact bl_G_close14 C hcl hst So Co P V hd hw S hg hr ht hfc hgt hge hfs hob hk hfd hp (Or.inl ⟨hkp, hbp⟩)
      · exact bl_G_keep15 C hcl hst So Co P V hd hw S hg hr ht hfc hgt hge hfs hob hk hfd hp hkp hbp (hxb (by rw [hk]; decide))
      · exact bl_G_close16 C hcl hst So Co P V hd hw S hg hr ht hfc hgt hge hfs hob hk hfd hp (Or.inl ⟨hkp, hbp⟩)
      · exact bl_G_local C hcl hst So Co P V hd hw S hg hr ht hfc hgt hge hfs hob hk hfd hp hkp hbp (hxb (by rw [hk]; decide))
    · rcases hk with hk | hk
      · have e : w = 6 := by rw [hwt, hk]; decide
        subst e
        exact bl_G_close3 C hcl hst So Co P V hd hw S hg hr ht hfc hgt hge hfs hob hk hfd hp hbd
      · have e : w = 6 := by rw [hwt, hk]; decide
        subst e
        exact bl_G_close6 C hcl hst So Co P V hd hw S hg hr ht hfc hgt hge hfs hob hk hfd hp hbd
    · rcases hk with hk | hk | hk | hk
      · have e : w = 3007 := by rw [hwt, hk]; decide
        subst e
        rcases hv with ⟨v1, v2⟩ | ⟨v1, n, v2, v3, v4⟩
        · exact bl_G_type C hcl hst So Co P V hd hw S hg hr ht hfc hgt hge hfs hob hk hfd hp hkp hbp (hxb (by rw [hk]; decide)) v1 v2
        · exact bl_G_call C hcl hst So Co P V hd hw S hg hr ht hfc hgt hge hfs hob hk hfd hp hkp hbp (hxb (by rw [hk]; decide)) v2 v1 v3 v4
      · have e : w = 6 := by rw [hwt, hk]; decide
        subst e
        exact bl_G_sum9 C hcl hst So Co P V hd hw S hg hr ht hfc hgt hge hfs hob hk hfd hp hkp hbp (hxb (by rw [hk]; decide)) hv
      · have e : w = 6 := by rw [hwt, hk]; decide
        subst e
        exact bl_G_sum10 C hcl hst So Co P V hd hw S hg hr ht hfc hgt hge hfs hob hk hfd hp hkp hbp (hxb (by rw [hk]; decide)) hv
      · have e : w = 6 := by rw [hwt, hk]; decide
        subst e
        exact bl_G_sum11 C hcl hst So Co P V hd hw S hg hr ht hfc hgt hge hfs hob hk hfd hp hkp hbp (hxb (by rw [hk]; decide)) hv
    · have e : w = 4 := by rw [hwt, hk]; decide
      subst e
      exact bl_G_close5 C hcl hst So Co P V hd hw S hg hr ht hfc hgt hge hfs hob hk hfd hp hbd
    · have e : w = 6 := by rw [hwt, hk]; decide
      subst e
      exact bl_G_prot C hcl hst So Co P V hd hw S hg hr ht hfc hgt hge hfs hob hk hfd hp hkp hbp (hxb (by rw [hk]; decide)) hfe hv
    · have e : w = 6 := by rw [hwt, hk]; decide
      subst e
      exact bl_G_pend C hcl hst So Co P V hd hw S hg hr ht hfc hgt hge hfs hob hk hfd hp hkp hbp (hxb (by rw [hk]; decide)) he
theorem bl_ph_bd {P : Nat → Prop} {k : Int32} {fv kv : Int64} {fe kp ph gk gv bp ok ov : Int32} (h : bl_ph cl P k e fv fe kp kv ph gk gv bp ok ov) : bl_bd cl kp kv bp ok ov ∧ e ≤ 2 ∧ (nI e = 0 ↔ ph = 0) ∧ (k = 12 ∨ k = 14 ∨ (k = 15 ∧ nI e = 0) → e = 0 ∧ ph = 0 ∧ kp = -1 ∧ bp = -1) := by
  rcases h with ⟨rfl, hp, hk, hkp, hbp⟩ | ⟨rfl, hp, hk, hbd⟩ | ⟨rfl, hp, hk, hkp, hbp, hv⟩ | ⟨rfl, hp, hk, hbd⟩ | ⟨rfl, hp, hk, hkp, hbp, hfe, hv⟩ | ⟨rfl, hp, hk, hkp, hbp, he⟩
  · exact ⟨Or.inl ⟨hkp, hbp⟩, by omega, ⟨fun _ => hp, fun _ => rfl⟩, fun _ => ⟨rfl, hp, hkp, hbp⟩⟩
  · refine ⟨hbd, by omega, ⟨fun z => absurd z (by decide), fun z => absurd (hp.symm.trans z) (by decide)⟩, ?_⟩
    rcases hk with rfl | rfl <;> intro z <;> exact absurd z (by decide)
  · refine ⟨Or.inl ⟨hkp, hbp⟩, by omega, ⟨fun z => absurd z (by decide), fun z => absurd (hp.symm.trans z) (by decide)⟩, ?_⟩
    rcases hk with rfl | rfl | rfl | rfl <;> intro z <;> exact absurd z (by decide)
  · refine ⟨hbd, by omega, ⟨fun z => absurd z (by decide), fun z => absurd (hp.symm.trans z) (by decide)⟩, ?_⟩
    subst hk; intro z; exact absurd z (by decide)
  · refine ⟨Or.inl ⟨hkp, hbp⟩, by omega, ⟨fun z => absurd z (by decide), fun z => absurd (hp.symm.trans z) (by decide)⟩, ?_⟩
    subst hk; intro z; exact absurd z (by decide)
  · refine ⟨Or.inl ⟨hkp, hbp⟩, by omega, ⟨fun z => absurd z (by decide), fun z => absurd (hp.symm.trans z) (by decide)⟩, ?_⟩
    subst hk; intro z; exact absurd z (by decide)
theorem bl_TN (C : bl_Cf L dl kX vX df pr sp kY nY en ln) (hcl : cl ≤ st) (hst : st ≤ 300) (So : bl_So sp ss so po sc) (Co : bl_Co kX vX L cc cs cy cb sc cl) (P : bl_Po cl pl pk pv) (V : bl_Vo cl sc sv pk pv) (hd : d + 1 ≤ st) (hw : 3001 * sc + s ≤ 3010 * st) (S : bl_Sq kX vX L sc cl (bl_x fc fs fb fd fv fe kp kv) (bl_y gt ph ge gk gv bp ok ov ob) (d + 1) h xb s) (hen : bl_er cl (bl_hc kX vX (bl_x fc fs fb fd fv fe kp kv) (d + 1)) xe xg yt yc yk yv) : (∃ u' q, q < 3010 * (300 - st) + s ∧ bl_RR L q u' ((nI sc), (nI cl), (nI h), xb, (nI st), 2, ya, ys, yk, yv, yc, yt, rk, rv, kY, nY, en, ln, pr, sp, pk, pv, th, ss, po, so, cy, cb, cs, gt, ph, ge, gk, gv, bp, ok, ov, ob) ∧ (∀ post : SX → Prop, post u' → wpX_unwindFrame post (dl, lr, lc, (nI st), (nI (d + 1)), (nI cl), (nI sc), 2, xa, xs, xb, xg, xe, kX, vX, df, pr, sp, pl, th, fc, fs, fb, fd, fv, fe, kp, kv, cc, cs, ss, sv, so))) ∨ (∃ h', h = h' + 1 ∧ ∃ u' v' q, q < 3010 * (300 - st) + s ∧ bl_RR L q u' v' ∧ (∀ post : SX → Prop, post u' → wpX_unwindFrame post (dl, lr, lc, (nI st), (nI (d + 1)), (nI cl), (nI sc), 2, xa, xs, xb, xg, xe, kX, vX, df, pr, sp, pl, th, fc, fs, fb, fd, fv, fe, kp, kv, cc, cs, ss, sv, so)) ∧ (∀ post : SY → Prop, post v' → wpY_end post ((nI sc), (nI cl), (nI h), xb, (nI st), 2, ya, ys, yk, yv, yc, yt, rk, rv, kY, nY, en, ln, pr, sp, pk, pv, th, ss, po, so, cy, cb, cs, gt, ph, ge, gk, gv, bp, ok, ov, ob))) := by
  rcases S with S | ⟨d', s', ed, rfl, htr, S⟩
  · rcases S with ⟨s', rfl, hi, S⟩ | ⟨h', s', w, rfl, rfl, hl, S⟩
    · obtain ⟨r, t, hr, ht, hfc, hk, hfd, hkp, hfb⟩ := hi
      have S : bl_St kX vX L sc cl (bl_x fc fs fb fd fv fe kp kv) (bl_y gt ph ge gk gv bp ok ov ob) d h (fb d) s' := by rw [hfb]; exact S
      exact Or.inl (bl_N_inert C hcl hst So Co P V hd hw S hen hr ht hfc hk hfd hkp hfb.symm)
    · obtain ⟨r, t, e, hr, ht, hfc, hgt, hge, hfs, hob, hfd, hwt, hb, hph⟩ := hl
      have S : bl_St kX vX L sc cl (bl_x fc fs fb fd fv fe kp kv) (bl_y gt ph ge gk gv bp ok ov ob) d h' (fb d) s' := S
      have hxb : ¬ kX (48 * r + t) = 16 → xb = fb d := fun z => hb.trans (if_neg z)
      obtain ⟨hbd, he2, hz, h0⟩ := bl_ph_bd hph
      refine Or.inr ⟨h', rfl, ?_⟩
      by_cases c12 : kX (48 * r + t) = 12 ∧ xe = 16 + vX (48 * r + t)
      · obtain ⟨rfl, hp, hkp, hbp⟩ := h0 (Or.inl c12.1)
        have e : w = 3009 := by rw [hwt]; simp [bl_wt]
        subst e
        exact bl_N_catch C hcl hst So Co P V hd hw S hen hr ht hfc hgt hge hfs hob c12.1 hfd hp hkp hbp (hxb (by rw [c12.1]; decide)) c12.2
      by_cases c14 : kX (48 * r + t) = 14 ∧ ¬ 16 ≤ xe
      · obtain ⟨rfl, hp, hkp, hbp⟩ := h0 (Or.inr (Or.inl c14.1))
        have e : w = 3009 := by rw [hwt]; simp [bl_wt]
        subst e
        exact bl_N_try C hcl hst So Co P V hd hw S hen hr ht hfc hgt hge hfs hob c14.1 hfd hp hkp hbp (hxb (by rw [c14.1]; decide)) c14.2
      by_cases c15 : kX (48 * r + t) = 15 ∧ nI e = 0
      · obtain ⟨rfl, hp, hkp, hbp⟩ := h0 (Or.inr (Or.inr c15))
        have e : w = 3009 := by rw [hwt]; simp [bl_wt]
        subst e
        exact bl_N_prot C hcl hst So Co P V hd hw S hen hr ht hfc hgt hge hfs hob c15.1 hfd hp hkp hbp (hxb (by rw [c15.1]; decide))
      · refine bl_N_close C hcl hst So Co P V hd hw S hen hr ht hfc hgt hge hfs hob ?_ hbd (by rw [hfd]; exact hz) (fun k z => c12 ⟨k, z⟩) (fun k _ => Classical.byContradiction (fun z => c14 ⟨k, z⟩)) (fun k z => c15 ⟨k, hfd.symm.trans z⟩)
        rw [hwt]; unfold bl_wt; omega
  · have ed : d' = d := by omega
    subst ed
    obtain ⟨r, t, hr, ht, hfc, hk, hkp, hfb⟩ := htr
    have S : bl_St kX vX L sc cl (bl_x fc fs fb fd fv fe kp kv) (bl_y gt ph ge gk gv bp ok ov ob) d' h (fb d') s' := by rw [hfb]; exact S
    exact Or.inl (bl_N_trans C hcl hst So Co P V hd hw S hen hr ht hfc hk hkp hfb.symm)
end
end
section
/-! the loops of run -/
def bl_xl (post : Int32 → SX → Prop) (n i : Nat) (u : SX) : Prop := match u with
  | (dl, lr, lc, xst, xd, xcl, xsc, xm, xa, xs, xb, xg, xe, kX, vX, df, pr, sp, pl, th, fc, fs, fb, fd, fv, fe, kp, kv, cc, cs, ss, sv, so) => wX_run_16 post n (nI i) dl lr lc xst xd xcl xsc xm xa xs xb xg xe kX vX df pr sp pl th fc fs fb fd fv fe kp kv cc cs ss sv so
def bl_xz (post : Int32 → SX → Prop) (u : SX) : Prop := match u with
  | (dl, lr, lc, xst, xd, xcl, xsc, xm, xa, xs, xb, xg, xe, kX, vX, df, pr, sp, pl, th, fc, fs, fb, fd, fv, fe, kp, kv, cc, cs, ss, sv, so) => wX_run_75 post dl lr lc xst xd xcl xsc xm xa xs xb xg xe kX vX df pr sp pl th fc fs fb fd fv fe kp kv cc cs ss sv so
def bl_yl (post : Int32 → SY → Prop) (n : Nat) (v : SY) : Prop := match v with
  | (yen, ycl, yw, xb, xst, ym, ya, ys, yk, yv, yc, yt, rk, rv, kY, nY, en, ln, pr, sp, pk, pv, th, ss, po, so, cy, cb, cs, gt, ph, ge, gk, gv, bp, ok, ov, ob) => wY_run_63 post n 1 yen ycl yw xb xst ym ya ys yk yv yc yt rk rv kY nY en ln pr sp pk pv th ss po so cy cb cs gt ph ge gk gv bp ok ov ob
def bl_yz (post : Int32 → SY → Prop) (v : SY) : Prop := match v with
  | (yen, ycl, yw, xb, xst, ym, ya, ys, yk, yv, yc, yt, rk, rv, kY, nY, en, ln, pr, sp, pk, pv, th, ss, po, so, cy, cb, cs, gt, ph, ge, gk, gv, bp, ok, ov, ob) => ((ym = 0 → (∃ n : Nat, wY_run_187 post yen ycl yw xb xst ym ya ys yk yv yc yt yk yv n 0 kY nY en ln pr sp pk pv th ss po so cy cb cs gt ph ge gk gv bp ok ov ob)) ∧ (¬ ym = 0 → (∃ n : Nat, wY_run_187 post yen ycl yw xb xst ym ya ys yk yv yc yt 2 yv n 0 kY nY en ln pr sp pk pv th ss po so cy cb cs gt ph ge gk gv bp ok ov ob)))
def bl_Fi (L : Nat → Nat) (u : SX) (v : SY) : Prop := match u, v with
  | (dl, lr, lc, xst, xd, xcl, xsc, xm, xa, xs, xb, xg, xe, kX, vX, df, pr, sp, pl, th, fc, fs, fb, fd, fv, fe, kp, kv, cc, cs, ss, sv, so), (yen, ycl, yw, xb', xst', ym, ya, ys, yk, yv, yc, yt, rk, rv, kY, nY, en, ln, pr', sp', pk, pv, th', ss', po, so', cy, cb, cs', gt, ph, ge, gk, gv, bp, ok, ov, ob) => (pr' = pr ∧ sp' = sp ∧ th' = th ∧ ss' = ss ∧ so' = so ∧ cs' = cs ∧ xst' = xst) ∧ ∃ cl, cl < 1000 ∧ bl_Cf L dl kX vX df pr sp kY nY en ln ∧ bl_Po cl pl pk pv ∧ ((xe = 0 ∧ ym = 0 ∧ bl_vg cl xg yk yv) ∨ (∃ c, 1 ≤ c ∧ c ≤ 4 ∧ xe = nI c ∧ ym = 2 ∧ yc = nI c) ∨ (xe = 5 ∧ ym = 3))
section
variable {dl lc xst xd xcl xsc xm xa xs xb xe yen ycl yw ym ya ys yk yv yc yt rk rv : Int32}
variable {lr xg : Int64}
variable {kX vX df pr sp th fc fs fb fd fe kp cc cs ss so kY nY en ln pk pv po cy cb gt ph ge gk gv bp ok ov ob : Nat → Int32}
variable {pl fv kv sv : Nat → Int64}
variable {L : Nat → Nat} {q d h sc cl st s r t m m2 p j b w e : Nat}
variable {yb : Int32} {i n : Nat}
theorem bl_xE {u' : SX} (hi : i < 1000000) (hX : ∀ post : SX → Prop, post u' → wpX_enterToken post (dl, lr, lc, xst, xd, xcl, xsc, 0, xa, xs, xb, xg, xe, kX, vX, df, pr, sp, pl, th, fc, fs, fb, fd, fv, fe, kp, kv, cc, cs, ss, sv, so)) {post : Int32 → SX → Prop} (h : bl_xl post n (i + 1) u') : bl_xl post (n + 1) i (dl, lr, lc, xst, xd, xcl, xsc, 0, xa, xs, xb, xg, xe, kX, vX, df, pr, sp, pl, th, fc, fs, fb, fd, fv, fe, kp, kv, cc, cs, ss, sv, so) := by
  obtain ⟨dl', lr', lc', xst', xd', xcl', xsc', xm', xa', xs', xb', xg', xe', kX', vX', df', pr', sp', pl', th', fc', fs', fb', fd', fv', fe', kp', kv', cc', cs', ss', sv', so'⟩ := u'
  exact br_f (nI_ge (b := 1000000) (by omega) (by decide)) (br_t rfl (br_t rfl (hX _ (nm_r (nI_1 i) h))))
theorem bl_xG {u' : SX} (hi : i < 1000000) (hd : d + 1 < 1000) (hX : ∀ post : SX → Prop, post u' → wpX_resumeFrame post (dl, lr, lc, xst, (nI (d + 1)), xcl, xsc, 1, xa, xs, xb, xg, xe, kX, vX, df, pr, sp, pl, th, fc, fs, fb, fd, fv, fe, kp, kv, cc, cs, ss, sv, so)) {post : Int32 → SX → Prop} (h : bl_xl post n (i + 1) u') : bl_xl post (n + 1) i (dl, lr, lc, xst, (nI (d + 1)), xcl, xsc, 1, xa, xs, xb, xg, xe, kX, vX, df, pr, sp, pl, th, fc, fs, fb, fd, fv, fe, kp, kv, cc, cs, ss, sv, so) := by
  obtain ⟨dl', lr', lc', xst', xd', xcl', xsc', xm', xa', xs', xb', xg', xe', kX', vX', df', pr', sp', pl', th', fc', fs', fb', fd', fv', fe', kp', kv', cc', cs', ss', sv', so'⟩ := u'
  exact br_f (nI_ge (b := 1000000) (by omega) (by decide)) (br_f (by decide) (br_f (nI_nle (by omega) (by omega)) (br_f (by decide) (br_t rfl (hX _ (nm_r (nI_1 i) h))))))
theorem bl_xN {u' : SX} (hi : i < 1000000) (hd : d + 1 < 1000) (hX : ∀ post : SX → Prop, post u' → wpX_unwindFrame post (dl, lr, lc, xst, (nI (d + 1)), xcl, xsc, 2, xa, xs, xb, xg, xe, kX, vX, df, pr, sp, pl, th, fc, fs, fb, fd, fv, fe, kp, kv, cc, cs, ss, sv, so)) {post : Int32 → SX → Prop} (h : bl_xl post n (i + 1) u') : bl_xl post (n + 1) i (dl, lr, lc, xst, (nI (d + 1)), xcl, xsc, 2, xa, xs, xb, xg, xe, kX, vX, df, pr, sp, pl, th, fc, fs, fb, fd, fv, fe, kp, kv, cc, cs, ss, sv, so) := by
  obtain ⟨dl', lr', lc', xst', xd', xcl', xsc', xm', xa', xs', xb', xg', xe', kX', vX', df', pr', sp', pl', th', fc', fs', fb', fd', fv', fe', kp', kv', cc', cs', ss', sv', so'⟩ := u'
  exact br_f (nI_ge (b := 1000000) (by omega) (by decide)) (br_f (by decide) (br_f (nI_nle (by omega) (by omega)) (br_f (by decide) (br_f (by decide) (hX _ (nm_r (nI_1 i) h))))))
theorem bl_xO (hi : i < 1000000) (hm : ¬ xm = 0) {post : Int32 → SX → Prop} (h : bl_xz post (dl, lr, lc, xst, (nI 0), xcl, xsc, xm, xa, xs, xb, xg, xe, kX, vX, df, pr, sp, pl, th, fc, fs, fb, fd, fv, fe, kp, kv, cc, cs, ss, sv, so)) : bl_xl post (n + 1) i (dl, lr, lc, xst, (nI 0), xcl, xsc, xm, xa, xs, xb, xg, xe, kX, vX, df, pr, sp, pl, th, fc, fs, fb, fd, fv, fe, kp, kv, cc, cs, ss, sv, so) :=
  br_f (nI_ge (b := 1000000) (by omega) (by decide)) (br_f hm (br_t (by decide) h))
theorem bl_yE {v' : SY} (hY : ∀ post : SY → Prop, post v' → wpY_evaluate post (yen, ycl, yw, xb, xst, 1, ya, ys, yk, yv, yc, yt, rk, rv, kY, nY, en, ln, pr, sp, pk, pv, th, ss, po, so, cy, cb, cs, gt, ph, ge, gk, gv, bp, ok, ov, ob)) {post : Int32 → SY → Prop} (h : bl_yl post n v') : bl_yl post (n + 1) (yen, ycl, yw, xb, xst, 1, ya, ys, yk, yv, yc, yt, rk, rv, kY, nY, en, ln, pr, sp, pk, pv, th, ss, po, so, cy, cb, cs, gt, ph, ge, gk, gv, bp, ok, ov, ob) := by
  obtain ⟨yen', ycl', yw', xb', xst', ym', ya', ys', yk', yv', yc', yt', rk', rv', kY', nY', en', ln', pr', sp', pk', pv', th', ss', po', so', cy', cb', cs', gt', ph', ge', gk', gv', bp', ok', ov', ob'⟩ := v'
  exact br_f (by decide) (br_t rfl (hY _ h))
theorem bl_yG {v' : SY} (hh : h + 1 < 1000) (hY : ∀ post : SY → Prop, post v' → wpY_give post (yen, ycl, (nI (h + 1)), xb, xst, 0, ya, ys, yk, yv, yc, yt, rk, rv, kY, nY, en, ln, pr, sp, pk, pv, th, ss, po, so, cy, cb, cs, gt, ph, ge, gk, gv, bp, ok, ov, ob)) {post : Int32 → SY → Prop} (h' : bl_yl post n v') : bl_yl post (n + 1) (yen, ycl, (nI (h + 1)), xb, xst, 0, ya, ys, yk, yv, yc, yt, rk, rv, kY, nY, en, ln, pr, sp, pk, pv, th, ss, po, so, cy, cb, cs, gt, ph, ge, gk, gv, bp, ok, ov, ob) := by
  obtain ⟨yen', ycl', yw', xb', xst', ym', ya', ys', yk', yv', yc', yt', rk', rv', kY', nY', en', ln', pr', sp', pk', pv', th', ss', po', so', cy', cb', cs', gt', ph', ge', gk', gv', bp', ok', ov', ob'⟩ := v'
  exact br_f (by decide) (br_f (by decide) (br_t rfl (br_f (nI_nle (by omega) (by omega)) (hY _ h'))))
theorem bl_yN {v' : SY} (hh : h + 1 < 1000) (hY : ∀ post : SY → Prop, post v' → wpY_end post (yen, ycl, (nI (h + 1)), xb, xst, 2, ya, ys, yk, yv, yc, yt, rk, rv, kY, nY, en, ln, pr, sp, pk, pv, th, ss, po, so, cy, cb, cs, gt, ph, ge, gk, gv, bp, ok, ov, ob)) {post : Int32 → SY → Prop} (h' : bl_yl post n v') : bl_yl post (n + 1) (yen, ycl, (nI (h + 1)), xb, xst, 2, ya, ys, yk, yv, yc, yt, rk, rv, kY, nY, en, ln, pr, sp, pk, pv, th, ss, po, so, cy, cb, cs, gt, ph, ge, gk, gv, bp, ok, ov, ob) := by
  obtain ⟨yen', ycl', yw', xb', xst', ym', ya', ys', yk', yv', yc', yt', rk', rv', kY', nY', en', ln', pr', sp', pk', pv', th', ss', po', so', cy', cb', cs', gt', ph', ge', gk', gv', bp', ok', ov', ob'⟩ := v'
  exact br_f (by decide) (br_f (by decide) (br_f (by decide) (br_t rfl (br_f (nI_nle (by omega) (by omega)) (hY _ h')))))
theorem bl_yO0 {post : Int32 → SY → Prop} (h : bl_yz post (yen, ycl, (nI 0), xb, xst, 0, ya, ys, yk, yv, yc, yt, rk, rv, kY, nY, en, ln, pr, sp, pk, pv, th, ss, po, so, cy, cb, cs, gt, ph, ge, gk, gv, bp, ok, ov, ob)) : bl_yl post (n + 2) (yen, ycl, (nI 0), xb, xst, 0, ya, ys, yk, yv, yc, yt, rk, rv, kY, nY, en, ln, pr, sp, pk, pv, th, ss, po, so, cy, cb, cs, gt, ph, ge, gk, gv, bp, ok, ov, ob) :=
  br_f (by decide) (br_f (by decide) (br_t rfl (br_t (by decide) (br_f (by decide) (br_t rfl ⟨1, br_t (by decide) h⟩)))))
theorem bl_yO2 {post : Int32 → SY → Prop} (h : bl_yz post (yen, ycl, (nI 0), xb, xst, 2, ya, ys, yk, yv, yc, yt, rk, rv, kY, nY, en, ln, pr, sp, pk, pv, th, ss, po, so, cy, cb, cs, gt, ph, ge, gk, gv, bp, ok, ov, ob)) : bl_yl post (n + 2) (yen, ycl, (nI 0), xb, xst, 2, ya, ys, yk, yv, yc, yt, rk, rv, kY, nY, en, ln, pr, sp, pk, pv, th, ss, po, so, cy, cb, cs, gt, ph, ge, gk, gv, bp, ok, ov, ob) :=
  br_f (by decide) (br_f (by decide) (br_f (by decide) (br_t rfl (br_t (by decide) (br_t rfl ⟨1, br_t (by decide) h⟩)))))
theorem bl_yO3 {post : Int32 → SY → Prop} (h : ∃ m, wY_run_130 post m yen ycl yw xb xst 3 ya ys yk yv yc yt rk rv kY nY en ln pr sp pk pv th ss po so cy cb cs gt ph ge gk gv bp ok ov ob) : bl_yl post (n + 2) (yen, ycl, yw, xb, xst, 3, ya, ys, yk, yv, yc, yt, rk, rv, kY, nY, en, ln, pr, sp, pk, pv, th, ss, po, so, cy, cb, cs, gt, ph, ge, gk, gv, bp, ok, ov, ob) :=
  br_f (by decide) (br_f (by decide) (br_f (by decide) (br_f (by decide) (br_t rfl h))))
theorem bl_x_ul {pl' : Nat → Int64} (d3 : d < 300) (p240 : p < 240) (hfc : fc d = nI p) (hc : ∀ post : SX → Prop, post (dl, lr, lc, xst, (nI d), xcl, xsc, xm, xa, xs, (fb d), xg, 5, kX, vX, df, pr, sp, pl', th, fc, fs, fb, fd, fv, fe, kp, kv, cc, cs, ss, sv, so) → wpX_closeFrame post (dl, lr, lc, xst, (nI (d + 1)), xcl, xsc, xm, xa, xs, xb, xg, 5, kX, vX, df, pr, sp, pl, th, fc, fs, fb, fd, fv, fe, kp, kv, cc, cs, ss, sv, so)) (post : SX → Prop) (hp : post (dl, lr, lc, xst, (nI d), xcl, xsc, xm, xa, xs, (fb d), xg, 5, kX, vX, df, pr, sp, pl', th, fc, fs, fb, fd, fv, fe, kp, kv, cc, cs, ss, sv, so)) : wpX_unwindFrame post (dl, lr, lc, xst, (nI (d + 1)), xcl, xsc, xm, xa, xs, xb, xg, 5, kX, vX, df, pr, sp, pl, th, fc, fs, fb, fd, fv, fe, kp, kv, cc, cs, ss, sv, so) := by
  have cd : (nI d).toNatClampNeg = d := nI_clamp (by omega)
  have cp : (nI p).toNatClampNeg = p := nI_clamp (by omega)
  have i3 : vp_in (nI d) 300 := vp_in_nI d3 (by decide)
  exact nm_r (nI_pred d) ⟨i3, nm_r (e' := nI p) (by rw [cd, hfc]) ⟨vp_in_nI p240 (by decide), nm_r (e' := kX p) (by rw [cp]) ⟨i3, br_c (fun _ => br_t rfl (hc _ hp)) (fun _ => br_t rfl (hc _ hp))⟩⟩⟩
theorem bl_close2 (hd : d < 300) (hw : w < 320) (B : bl_bd cl (kp d) (kv d) (bp w) (ok w) (ov w)) (P : bl_Po cl pl pk pv) (V : bl_Vo cl sc sv pk pv) : ∃ (pl' : Nat → Int64) (pk' pv' bp' : Nat → Int32), bl_Po cl pl' pk' pv' ∧ bl_Vo cl sc sv pk' pv' ∧ (∀ i, i ≠ w → bp' i = bp i)
    ∧ (∀ post : SX → Prop, post (dl, lr, lc, xst, (nI d), xcl, xsc, xm, xa, xs, (fb d), xg, xe, kX, vX, df, pr, sp, pl', th, fc, fs, fb, fd, fv, fe, kp, kv, cc, cs, ss, sv, so) → wpX_closeFrame post (dl, lr, lc, xst, (nI (d + 1)), xcl, xsc, xm, xa, xs, xb, xg, xe, kX, vX, df, pr, sp, pl, th, fc, fs, fb, fd, fv, fe, kp, kv, cc, cs, ss, sv, so)) ∧ (∀ post : SY → Prop, post (yen, ycl, yw, yb, xst, ym, ya, ys, yk, yv, yc, yt, rk, rv, kY, nY, en, ln, pr, sp, pk', pv', th, ss, po, so, cy, cb, cs, gt, ph, ge, gk, gv, bp', ok, ov, ob) → wpY_giveBack post (yen, ycl, yw, yb, xst, ym, ya, ys, yk, yv, yc, yt, rk, rv, kY, nY, en, ln, pr, sp, pk, pv, th, ss, po, so, cy, cb, cs, gt, ph, ge, gk, gv, bp, ok, ov, ob) (nI w)) := by
  rcases B with ⟨b1, b2⟩ | ⟨p, b0, b1, b2, b3⟩
  · exact ⟨pl, pk, pv, bp, P, V, fun _ _ => rfl, fun post hp => bl_x_cl1 hd b1 hp, fun post hp => bl_y_gb1 hw b2 hp⟩
  · exact ⟨vp_updL pl p (kv d), upd pk p (ok w), upd pv p (ov w), upd bp w (-1), bl_Po_set P p b3, bl_Vo_pl V b0 _ _, fun i hi => pk_un hi, fun post hp => bl_x_cl2 hd b1 b0 hp, fun post hp => bl_y_gb2 hw b2 b0 hp⟩
theorem bl_long (h48 : ∀ r, r < 5 → L r ≤ 48) : ∀ (d h : Nat) (xb : Int32) (s : Nat) (pl : Nat → Int64) (pk pv bp : Nat → Int32), d ≤ 300 → bl_St kX vX L sc cl (bl_x fc fs fb fd fv fe kp kv) (bl_y gt ph ge gk gv bp ok ov ob) d h xb s → bl_Po cl pl pk pv → bl_Vo cl sc sv pk pv →
    ∃ (pl' : Nat → Int64) (pk' pv' bp' : Nat → Int32) (xb' : Int32), bl_Po cl pl' pk' pv' ∧ (∀ (post : Int32 → SX → Prop) (n i : Nat), i + d < 1000000 → d < n → bl_xz post (dl, lr, lc, xst, (nI 0), xcl, xsc, 2, xa, xs, xb', xg, 5, kX, vX, df, pr, sp, pl', th, fc, fs, fb, fd, fv, fe, kp, kv, cc, cs, ss, sv, so) → bl_xl post n i (dl, lr, lc, xst, (nI d), xcl, xsc, 2, xa, xs, xb, xg, 5, kX, vX, df, pr, sp, pl, th, fc, fs, fb, fd, fv, fe, kp, kv, cc, cs, ss, sv, so)) ∧ (∀ post : Int32 → SY → Prop, bl_yz post (yen, ycl, (nI 0), yb, xst, 3, ya, ys, yk, yv, yc, yt, rk, rv, kY, nY, en, ln, pr, sp, pk', pv', th, ss, po, so, cy, cb, cs, gt, ph, ge, gk, gv, bp', ok, ov, ob) → ∃ m, wY_run_130 post m yen ycl (nI h) yb xst 3 ya ys yk yv yc yt rk rv kY nY en ln pr sp pk pv th ss po so cy cb cs gt ph ge gk gv bp ok ov ob) := by
  intro d
  induction d with
  | zero =>
    intro h xb s pl pk pv bp _ S P V
    have h0 : h = 0 := S.1
    subst h0
    refine ⟨pl, pk, pv, bp, xb, P, fun post n i hi hn hz => ?_, fun post hz => ⟨1, br_t (by decide) hz⟩⟩
    obtain ⟨n, rfl⟩ : ∃ n', n = n' + 1 := ⟨n - 1, by omega⟩
    exact bl_xO (by omega) (by decide) hz
  | succ d ih =>
    intro h xb s pl pk pv bp hd S P V
    rcases S with ⟨s', e, hi, S⟩ | ⟨h', s', w, rfl, e, hl, S⟩
    · obtain ⟨r, t, hr, ht, hfc, hk, hfd, hkp, hfb⟩ := hi
      have l48 := h48 r hr
      obtain ⟨pl', pk', pv', bp', xb', P', hX, hY⟩ := ih h xb s' pl pk pv bp (by omega) S P V
      refine ⟨pl', pk', pv', bp', xb', P', fun post n i hi hn hz => ?_, hY⟩
      obtain ⟨n, rfl⟩ : ∃ n', n = n' + 1 := ⟨n - 1, by omega⟩
      have w := hX post n (i + 1) (by omega) (by omega) hz
      rw [← hfb] at w ⊢
      exact bl_xN (by omega) (by omega) (bl_x_ul (pl' := pl) (p := 48 * r + t) (by omega) (by omega) hfc (fun post hp => bl_x_cl1 (by omega) hkp hp)) w
    · have hh := bl_St_le _ _ _ _ S
      obtain ⟨r, t, e, hr, ht, hfc, hgt, hge, hfs, hob, hfd, hwt, hb, hph⟩ := hl
      have l48 := h48 r hr
      obtain ⟨hbd, _⟩ := bl_ph_bd hph
      obtain ⟨pl1, pk1, pv1, bp1, P1, V1, hbp, cX, cY⟩ := bl_close2 (dl := dl) (lr := lr) (lc := lc) (xst := xst) (xcl := xcl) (xsc := xsc) (xm := 2) (xa := xa) (xs := xs) (xb := xb) (xg := xg) (xe := 5) (kX := kX) (vX := vX) (df := df) (pr := pr) (sp := sp) (pl := pl) (th := th) (fc := fc) (fs := fs) (fb := fb) (fd := fd) (fv := fv) (fe := fe) (kp := kp) (kv := kv) (cc := cc) (cs := cs) (ss := ss) (sv := sv) (so := so) (yen := yen) (ycl := ycl) (yw := nI h') (ym := 3) (ya := ya) (ys := ys) (yk := yk) (yv := yv) (yc := yc) (yt := yt) (rk := rk) (rv := rv) (kY := kY) (nY := nY) (en := en) (ln := ln) (pk := pk) (pv := pv) (po := po) (cy := cy) (cb := cb) (gt := gt) (ph := ph) (ge := ge) (gk := gk) (gv := gv) (bp := bp) (ok := ok) (ov := ov) (ob := ob) (yb := yb) (w := h') (by omega) (by omega) hbd P V
      have S1 : bl_St kX vX L sc cl (bl_x fc fs fb fd fv fe kp kv) (bl_y gt ph ge gk gv (bp1) ok ov ob) d h' (fb d) s' := bl_St_cg (Nat.le_refl _) (Nat.le_refl _) d h' _ s' (fun _ _ => rfl) (fun i hi => by simp only [bl_y, hbp i (by omega)]) S
      obtain ⟨pl', pk', pv', bp', xb', P', hX, hY⟩ := ih h' (fb d) s' pl1 pk1 pv1 bp1 (by omega) S1 P1 V1
      refine ⟨pl', pk', pv', bp', xb', P', fun post n i hi hn hz => ?_, fun post hz => ?_⟩
      · obtain ⟨n, rfl⟩ : ∃ n', n = n' + 1 := ⟨n - 1, by omega⟩
        exact bl_xN (by omega) (by omega) (bl_x_ul (p := 48 * r + t) (by omega) (by omega) hfc cX) (hX post n (i + 1) (by omega) (by omega) hz)
      · obtain ⟨m, hm⟩ := hY post hz
        exact ⟨m + 1, br_f (nI_nle (by omega) (by omega)) (nm_r (nI_pred h') (cY _ hm))⟩
end
theorem bl_St_s {kX vX : Nat → Int32} {L : Nat → Nat} {sc cl : Nat} {x : Nat → bl_XF} {y : Nat → bl_YF} : ∀ (d h : Nat) (b : Int32) (s : Nat), bl_St kX vX L sc cl x y d h b s → d ≤ s := by
  intro d
  induction d with
  | zero => intro h b s H; omega
  | succ d ih =>
    intro h b s H
    rcases H with ⟨s', e, hi, H⟩ | ⟨h', s', w, e1, e2, hl, H⟩
    · have := ih _ _ _ H; omega
    · have h0 := ih _ _ _ H
      generalize x d = f at hl
      generalize y h' = g at hl
      obtain ⟨fc, fs, fb, fd, fv, fe, kp, kv⟩ := f
      obtain ⟨gt, ph, ge, gk, gv, bp, ok, ov, ob⟩ := g
      obtain ⟨r, t, e, a1, a2, a3, a4, a5, a6, a7, a8, a9, a10, a11⟩ := hl
      obtain ⟨_, he2, _⟩ := bl_ph_bd a11
      have : 1 ≤ w := by rw [a9]; unfold bl_wt; omega
      omega
theorem bl_main {L : Nat → Nat} : ∀ (q : Nat) (u : SX) (v : SY), bl_RR L q u v → ∃ uf vf, bl_Fi L uf vf ∧ (∀ (post : Int32 → SX → Prop) (n i : Nat), i + q < 1000000 → q < n → bl_xz post uf → bl_xl post n i u) ∧ (∀ (post : Int32 → SY → Prop) (n : Nat), q + 1 < n → bl_yz post vf → bl_yl post n v) := by
  intro q
  induction q using Nat.strongRecOn with
  | ind q ih =>
  intro u v H
  obtain ⟨dl, lr, lc, xst, xd, xcl, xsc, xm, xa, xs, xb, xg, xe, kX, vX, df, pr, sp, pl, th, fc, fs, fb, fd, fv, fe, kp, kv, cc, cs, ss, sv, so⟩ := u
  obtain ⟨yen, ycl, yw, xb', xst', ym, ya, ys, yk, yv, yc, yt, rk, rv, kY, nY, en, ln, pr', sp', pk, pv, th', ss', po, so', cy, cb, cs', gt, ph, ge, gk, gv, bp, ok, ov, ob⟩ := v
  obtain ⟨⟨rfl, rfl, rfl, rfl, rfl, rfl, rfl, rfl⟩, d, h, sc, cl, st, s, ⟨rfl, rfl, rfl, rfl, rfl, rfl, rfl⟩, C, ⟨hd, hcl, hst, hw⟩, So, Co, P, V, M⟩ := H
  rcases M with ⟨rfl, rfl, rfl, hs, ⟨r, t, hr, ht, rfl, rfl⟩, S, rfl⟩ | ⟨rfl, rfl, rfl, hg, S, rfl⟩ | ⟨rfl, rfl, he, S, rfl⟩ | ⟨rfl, rfl, rfl, S, rfl⟩
  · obtain ⟨u', v', q', hq, R, hX, hY⟩ := bl_TE C hcl hst So Co P V hd hw S hs hr ht
    obtain ⟨uf, vf, F, wX, wY⟩ := ih q' hq u' v' R
    refine ⟨uf, vf, F, fun post n i hi hn hz => ?_, fun post n hn hz => ?_⟩
    · obtain ⟨n, rfl⟩ : ∃ n', n = n' + 1 := ⟨n - 1, by omega⟩
      exact bl_xE (by omega) hX (wX post n (i + 1) (by omega) (by omega) hz)
    · obtain ⟨n, rfl⟩ : ∃ n', n = n' + 1 := ⟨n - 1, by omega⟩
      exact bl_yE hY (wY post n (by omega) hz)
  · cases d with
    | zero =>
      have h0 : h = 0 := S.1
      subst h0
      refine ⟨(dl, lr, lc, (nI st), (nI 0), (nI cl), (nI sc), 1, xa, xs, xb', xg, 0, kX, vX, df, pr', sp', pl, th', fc, fs, fb, fd, fv, fe, kp, kv, cc, cs', ss', sv, so'), ((nI sc), (nI cl), (nI 0), xb', (nI st), 0, ya, ys, yk, yv, yc, yt, rk, rv, kY, nY, en, ln, pr', sp', pk, pv, th', ss', po, so', cy, cb, cs', gt, ph, ge, gk, gv, bp, ok, ov, ob), ⟨⟨rfl, rfl, rfl, rfl, rfl, rfl, rfl⟩, cl, by omega, C, P, Or.inl ⟨rfl, rfl, hg⟩⟩, fun post n i hi hn hz => ?_, fun post n hn hz => ?_⟩
      · obtain ⟨n, rfl⟩ : ∃ n', n = n' + 1 := ⟨n - 1, by omega⟩
        exact bl_xO (by omega) (by decide) hz
      · obtain ⟨n, rfl⟩ : ∃ n', n = n' + 2 := ⟨n - 2, by omega⟩
        exact bl_yO0 hz
    | succ d =>
      rcases bl_TG C hcl hst So Co P V hd hw S hg with ⟨u', q', hq, R, hX⟩ | ⟨h', rfl, u', v', q', hq, R, hX, hY⟩
      · obtain ⟨uf, vf, F, wX, wY⟩ := ih q' hq u' _ R
        refine ⟨uf, vf, F, fun post n i hi hn hz => ?_, fun post n hn hz => wY post n (by omega) hz⟩
        obtain ⟨n, rfl⟩ : ∃ n', n = n' + 1 := ⟨n - 1, by omega⟩
        exact bl_xG (by omega) (by omega) hX (wX post n (i + 1) (by omega) (by omega) hz)
      · have hh := bl_St_le _ _ _ _ S
        obtain ⟨uf, vf, F, wX, wY⟩ := ih q' hq u' v' R
        refine ⟨uf, vf, F, fun post n i hi hn hz => ?_, fun post n hn hz => ?_⟩
        · obtain ⟨n, rfl⟩ : ∃ n', n = n' + 1 := ⟨n - 1, by omega⟩
          exact bl_xG (by omega) (by omega) hX (wX post n (i + 1) (by omega) (by omega) hz)
        · obtain ⟨n, rfl⟩ : ∃ n', n = n' + 1 := ⟨n - 1, by omega⟩
          exact bl_yG (by omega) hY (wY post n (by omega) hz)
  · cases d with
    | zero =>
      rcases S with S | ⟨d', s', e, _⟩
      · have h0 : h = 0 := S.1
        subst h0
        rcases he with ⟨c, c1, c2, rfl, rfl, rfl⟩ | ⟨t, _, _, _, _, ⟨i, p, hi, _⟩, _⟩
        · refine ⟨(dl, lr, lc, (nI st), (nI 0), (nI cl), (nI sc), 2, xa, xs, xb', xg, (nI c), kX, vX, df, pr', sp', pl, th', fc, fs, fb, fd, fv, fe, kp, kv, cc, cs', ss', sv, so'), ((nI sc), (nI cl), (nI 0), xb', (nI st), 2, ya, ys, yk, yv, (nI c), (-1), rk, rv, kY, nY, en, ln, pr', sp', pk, pv, th', ss', po, so', cy, cb, cs', gt, ph, ge, gk, gv, bp, ok, ov, ob), ⟨⟨rfl, rfl, rfl, rfl, rfl, rfl, rfl⟩, cl, by omega, C, P, Or.inr (Or.inl ⟨c, c1, c2, rfl, rfl, rfl⟩)⟩, fun post n i hi hn hz => ?_, fun post n hn hz => ?_⟩
          · obtain ⟨n, rfl⟩ : ∃ n', n = n' + 1 := ⟨n - 1, by omega⟩
            exact bl_xO (by omega) (by decide) hz
          · obtain ⟨n, rfl⟩ : ∃ n', n = n' + 2 := ⟨n - 2, by omega⟩
            exact bl_yO2 hz
        · omega
      · omega
    | succ d =>
      have hh : h ≤ d + 1 := by
        rcases S with S | ⟨d', s', e, _, _, S⟩
        · exact bl_St_le _ _ _ _ S
        · have := bl_St_le _ _ _ _ S; omega
      rcases bl_TN C hcl hst So Co P V hd hw S he with ⟨u', q', hq, R, hX⟩ | ⟨h', rfl, u', v', q', hq, R, hX, hY⟩
      · obtain ⟨uf, vf, F, wX, wY⟩ := ih q' hq u' _ R
        refine ⟨uf, vf, F, fun post n i hi hn hz => ?_, fun post n hn hz => wY post n (by omega) hz⟩
        obtain ⟨n, rfl⟩ : ∃ n', n = n' + 1 := ⟨n - 1, by omega⟩
        exact bl_xN (by omega) (by omega) hX (wX post n (i + 1) (by omega) (by omega) hz)
      · obtain ⟨uf, vf, F, wX, wY⟩ := ih q' hq u' v' R
        refine ⟨uf, vf, F, fun post n i hi hn hz => ?_, fun post n hn hz => ?_⟩
        · obtain ⟨n, rfl⟩ : ∃ n', n = n' + 1 := ⟨n - 1, by omega⟩
          exact bl_xN (by omega) (by omega) hX (wX post n (i + 1) (by omega) (by omega) hz)
        · obtain ⟨n, rfl⟩ : ∃ n', n = n' + 1 := ⟨n - 1, by omega⟩
          exact bl_yN (by omega) hY (wY post n (by omega) hz)
  · have sd : d ≤ s := bl_St_s _ _ _ _ S
    obtain ⟨pl', pk', pv', bp', xb1, P', hX, hY⟩ := bl_long C.1.1 d h _ s _ _ _ _ (by omega) S P V
    refine ⟨(dl, lr, lc, (nI st), (nI 0), (nI cl), (nI sc), 2, xa, xs, xb1, xg, 5, kX, vX, df, pr', sp', pl', th', fc, fs, fb, fd, fv, fe, kp, kv, cc, cs', ss', sv, so'), ((nI sc), (nI cl), (nI 0), xb', (nI st), 3, ya, ys, yk, yv, yc, yt, rk, rv, kY, nY, en, ln, pr', sp', pk', pv', th', ss', po, so', cy, cb, cs', gt, ph, ge, gk, gv, bp', ok, ov, ob), ⟨⟨rfl, rfl, rfl, rfl, rfl, rfl, rfl⟩, cl, by omega, C, P', Or.inr (Or.inr ⟨rfl, rfl⟩)⟩, fun post n i hi hn hz => hX post n i (by omega) (by omega) hz, fun post n hn hz => ?_⟩
    obtain ⟨n, rfl⟩ : ∃ n', n = n' + 2 := ⟨n - 2, by omega⟩
    exact bl_yO3 (hY post hz)
end
section
/-! is the draft an expression; the table of ends; what closes a run -/
section
variable {dl lc xst xd xcl xsc xm xa xs xb xe yen ycl yw ym ya ys yk yv yc yt rk rv : Int32}
variable {lr xg : Int64}
variable {kX vX df pr sp th fc fs fb fd fe kp cc cs ss so kY nY en ln pk pv po cy cb gt ph ge gk gv bp ok ov ob : Nat → Int32}
variable {pl fv kv sv : Nat → Int64}
variable {L : Nat → Nat} {r n cl : Nat} {yb : Int32}
theorem bl_isx (hk : ∀ p, p < 240 → bl_tk (kX p) (vX p)) (hy : ∀ i, i < 48 → kY (192 + i) = kX i) (hn : n ≤ 48) (hln : ln 4 = nI n) : ∃ b : Int32, ((b = 1 ∧ pf_V (bl_rg kX 0) n) ∨ b = 0) ∧ (∀ post : Int32 → Prop, post b → wpX_draftIsExpression post ((nI n), lr, lc, xst, xd, xcl, xsc, xm, xa, xs, xb, xg, xe, kX, vX, df, pr, sp, pl, th, fc, fs, fb, fd, fv, fe, kp, kv, cc, cs, ss, sv, so)) ∧ (∀ post : Int32 → Prop, post b → wpY_isExpression post (yen, ycl, yw, yb, xst, ym, ya, ys, yk, yv, yc, yt, rk, rv, kY, nY, en, ln, pr, sp, pk, pv, th, ss, po, so, cy, cb, cs, gt, ph, ge, gk, gv, bp, ok, ov, ob)) := by
  have e192 : (192 : Int32) + nI n = nI (192 + n) := nI_add 192 n
  have key : ∀ k l, l + k = n → (∀ i, i < l → 0 < pf_D (bl_rg kX 0) i) → ∃ b : Int32, ((b = 1 ∧ pf_V (bl_rg kX 0) n) ∨ b = 0) ∧ (∀ (post : Int32 → Prop) f, k < f → post b → wX_draftIsExpression_4 post (nI n) lr lc xst xd xcl xsc xm xa xs xb xg xe kX vX df pr sp pl th fc fs fb fd fv fe kp kv cc cs ss sv so f (nI (pf_D (bl_rg kX 0) l)) (nI l)) ∧ (∀ (post : Int32 → Prop) f, k < f → post b → wY_isExpression_6 post yen ycl yw yb xst ym ya ys yk yv yc yt rk rv kY nY en ln pr sp pk pv th ss po so cy cb cs gt ph ge gk gv bp ok ov ob f (nI (pf_D (bl_rg kX 0) l)) (nI (192 + l))) := by
    intro k
    induction k with
    | zero =>
      intro l hl hD
      have hl : l = n := by omega
      subst hl
      have le1 : nI l ≤ nI l := nI_le (Nat.le_refl _) (by omega)
      have le2 : 192 + ln 4 ≤ nI (192 + l) := by rw [hln, e192]; exact nI_le (Nat.le_refl _) (by omega)
      have b97 := pf_D_le (g := bl_rg kX 0) (fun i => bl_ar_le _) l
      by_cases c : pf_D (bl_rg kX 0) l = 0
      · refine ⟨1, Or.inl ⟨rfl, hD, c⟩, fun post f hf hp => ?_, fun post f hf hp => ?_⟩
        · obtain ⟨f, rfl⟩ : ∃ f', f = f' + 1 := ⟨f - 1, by omega⟩
          rw [c]; exact br_t le1 (br_t rfl hp)
        · obtain ⟨f, rfl⟩ : ∃ f', f = f' + 1 := ⟨f - 1, by omega⟩
          rw [c]; exact br_t le2 (br_t rfl hp)
      · have ne : ¬ nI (pf_D (bl_rg kX 0) l) = 0 := nI_ne0 (by omega) (by omega)
        refine ⟨0, Or.inr rfl, fun post f hf hp => ?_, fun post f hf hp => ?_⟩
        · obtain ⟨f, rfl⟩ : ∃ f', f = f' + 1 := ⟨f - 1, by omega⟩
          exact br_t le1 (br_f ne hp)
        · obtain ⟨f, rfl⟩ : ∃ f', f = f' + 1 := ⟨f - 1, by omega⟩
          exact br_t le2 (br_f ne hp)
    | succ k ih =>
      intro l hl hD
      have le1 : ¬ nI n ≤ nI l := nI_ge (by omega) (by omega)
      have le2 : ¬ 192 + ln 4 ≤ nI (192 + l) := by rw [hln, e192]; exact nI_ge (by omega) (by omega)
      have b97 := pf_D_le (g := bl_rg kX 0) (fun i => bl_ar_le _) l
      by_cases c : pf_D (bl_rg kX 0) l = 0
      · refine ⟨0, Or.inr rfl, fun post f hf hp => ?_, fun post f hf hp => ?_⟩
        · obtain ⟨f, rfl⟩ : ∃ f', f = f' + 1 := ⟨f - 1, by omega⟩
          rw [c]; exact br_f le1 (br_t rfl hp)
        · obtain ⟨f, rfl⟩ : ∃ f', f = f' + 1 := ⟨f - 1, by omega⟩
          rw [c]; exact br_f le2 (br_t rfl hp)
      · have ne : ¬ nI (pf_D (bl_rg kX 0) l) = 0 := nI_ne0 (by omega) (by omega)
        have e0 : 48 * 0 + l = l := by omega
        have eD : pf_D (bl_rg kX 0) (l + 1) = pf_D (bl_rg kX 0) l + bl_ar (kX l) - 1 := by
          show pf_D (bl_rg kX 0) l + bl_ar (kX (48 * 0 + l)) - 1 = _
          rw [e0]
        obtain ⟨b, hb, hX, hY⟩ := ih (l + 1) (by omega) (fun i hi => by
          by_cases z : i = l
          · subst z; omega
          · exact hD i (by omega))
        rw [eD] at hX hY
        refine ⟨b, hb, fun post f hf hp => ?_, fun post f hf hp => ?_⟩
        · obtain ⟨f, rfl⟩ : ∃ f', f = f' + 1 := ⟨f - 1, by omega⟩
          refine br_f le1 (br_f ne ⟨vp_in_nI (by omega) (by decide), ?_⟩)
          rw [nI_clamp (by omega)]
          exact bl_x_pc (hk l (by omega)) (nm_r (bl_due (by omega)) (nm_r (nI_1 l) (hX post f (by omega) hp)))
        · obtain ⟨f, rfl⟩ : ∃ f', f = f' + 1 := ⟨f - 1, by omega⟩
          refine br_f le2 (br_f ne ⟨vp_in_nI (by omega) (by decide), ?_⟩)
          rw [nI_clamp (by omega), hy l (by omega)]
          exact bl_y_pc (hk l (by omega)) (nm_r (bl_due (by omega)) (nm_r (nI_1 _) (hY post f (by omega) hp)))
  obtain ⟨b, hb, hX, hY⟩ := key n 0 (by omega) (fun i hi => by omega)
  exact ⟨b, hb, fun post hp => ⟨n + 1, hX post (n + 1) (by omega) hp⟩, fun post hp => ⟨n + 1, hY post (n + 1) (by omega) hp⟩⟩
theorem bl_predlt {a : Nat} (ha : a < 1000) : nI a + (-1) < nI a := by
  cases a with
  | zero => decide
  | succ a => rw [pk_m1]; exact nI_lt (by omega) (by omega)
theorem bl_fe_in (hk : ∀ p, p < 240 → bl_tk (kX p) (vX p)) (hr : r < 5) (hn : n ≤ 48) (hy : ∀ i, i < n → kY (bl_yb r + i) = kX (48 * r + i)) (V : pf_V (bl_rg kX r) n) {l m' : Nat} (hl : l < n) (E : pf_E (bl_rg kX r) l m') (T : ∀ i, l < i → i < n → ∃ m, pf_E (bl_rg kX r) i m ∧ en (bl_yb r + i) = nI (bl_yb r + m)) {post : SY → Prop} {J : Int32 → (Nat → Int32) → (Nat → Int32) → (Nat → Int32) → (Nat → Int32) → (Nat → Int32) → (Nat → Int32) → (Nat → Int32) → (Nat → Int32) → (Nat → Int32) → (Nat → Int32) → (Nat → Int32) → (Nat → Int32) → (Nat → Int32) → (Nat → Int32) → (Nat → Int32) → (Nat → Int32) → (Nat → Int32) → (Nat → Int32) → (Nat → Int32) → (Nat → Int32) → (Nat → Int32) → (Nat → Int32) → (Nat → Int32) → (Nat → Int32) → Prop} (HJ : J (nI (bl_yb r + l) + (-1)) kY nY (upd en (bl_yb r + l) (nI (bl_yb r + m'))) ln pr sp pk pv th ss po so cy cb cs gt ph ge gk gv bp ok ov ob) : ∀ k j m, j + k = bl_rg kX r l → pf_C (bl_rg kX r) l j m → ∀ f, k < f → wY_findEnds_19 post J (nI (bl_yb r)) (nI (bl_yb r + l)) yen ycl yw yb xst ym ya ys yk yv yc yt rk rv kY nY en ln pr sp pk pv th ss po so cy cb cs gt ph ge gk gv bp ok ov ob f (nI (bl_yb r + m)) (nI j) := by
  have q240 := bl_yb_lt (r := r) (i := l) hr (by omega)
  have i1 : vp_in (nI (bl_yb r + l)) 240 := vp_in_nI q240 (by decide)
  have c1 : (nI (bl_yb r + l)).toNatClampNeg = bl_yb r + l := nI_clamp (by omega)
  have tk := hk (48 * r + l) (by omega)
  have a3 : bl_ar (kX (48 * r + l)) ≤ 3 := bl_ar_le _
  intro k
  induction k with
  | zero =>
    intro j m hj hC f hf
    obtain ⟨f, rfl⟩ : ∃ f', f = f' + 1 := ⟨f - 1, by omega⟩
    have hj : j = bl_rg kX r l := by omega
    subst hj
    have em := pf_uq (pf_C_end V hl hC) E
    subst em
    refine ⟨i1, ?_⟩
    rw [c1, hy l hl]
    exact bl_y_pc tk (br_t (nI_le (Nat.le_refl _) (Nat.lt_of_le_of_lt a3 (by decide))) ⟨i1, nm_e (nm_e HJ)⟩)
  | succ k ih =>
    intro j m hj hC f hf
    obtain ⟨f, rfl⟩ : ∃ f', f = f' + 1 := ⟨f - 1, by omega⟩
    have hjg : j < bl_rg kX r l := by omega
    have hm := pf_C_in V hl hjg hC
    obtain ⟨hlm, _⟩ := pf_C_inv V hl j m (by omega) hC
    obtain ⟨m2, E2, he⟩ := T m hlm hm
    have m240 := bl_yb_lt (r := r) (i := m) hr (by omega)
    refine ⟨i1, ?_⟩
    rw [c1, hy l hl]
    refine bl_y_pc tk (br_f (nI_ge hjg (Nat.lt_of_le_of_lt a3 (by decide))) ⟨vp_in_nI m240 (by decide), nm_r (e' := nI (bl_yb r + m2)) ?_ (nm_r (nI_1 j) (ih (j + 1) m2 (by omega) ⟨m, hC, E2⟩ f (by omega)))⟩)
    rw [nI_clamp (by omega), he]
theorem bl_fe_out (hk : ∀ p, p < 240 → bl_tk (kX p) (vX p)) (hr : r < 5) (hn : n ≤ 48) (hy : ∀ i, i < n → kY (bl_yb r + i) = kX (48 * r + i)) (V : pf_V (bl_rg kX r) n) : ∀ (l : Nat) (en : Nat → Int32), l ≤ n → (∀ i, l ≤ i → i < n → ∃ m, pf_E (bl_rg kX r) i m ∧ en (bl_yb r + i) = nI (bl_yb r + m)) → ∃ en' : Nat → Int32, (∀ i, i < n → ∃ m, pf_E (bl_rg kX r) i m ∧ en' (bl_yb r + i) = nI (bl_yb r + m)) ∧ (∀ p, (∀ i, i < n → p ≠ bl_yb r + i) → en' p = en p) ∧ ∀ (post : SY → Prop) f, l < f → post (yen, ycl, yw, yb, xst, ym, ya, ys, yk, yv, yc, yt, rk, rv, kY, nY, en', ln, pr, sp, pk, pv, th, ss, po, so, cy, cb, cs, gt, ph, ge, gk, gv, bp, ok, ov, ob) → wY_findEnds_6 post (nI (bl_yb r)) yen ycl yw yb xst ym ya ys yk yv yc yt rk rv f (nI (bl_yb r + l) + (-1)) kY nY en ln pr sp pk pv th ss po so cy cb cs gt ph ge gk gv bp ok ov ob := by
  have y240 := bl_yb_le (r := r) (i := 48) hr (by omega)
  intro l
  induction l with
  | zero =>
    intro en _ T
    refine ⟨en, fun i hi => T i (by omega) hi, fun _ _ => rfl, fun post f hf hp => ?_⟩
    obtain ⟨f, rfl⟩ : ∃ f', f = f' + 1 := ⟨f - 1, by omega⟩
    exact br_t (bl_predlt (by omega)) hp
  | succ l ih =>
    intro en hl T
    obtain ⟨m', hm', E⟩ := pf_ex V (i := l) (by omega)
    obtain ⟨en', T', U', W'⟩ := ih (upd en (bl_yb r + l) (nI (bl_yb r + m'))) (by omega) (fun i h1 h2 => by
      by_cases c : i = l
      · subst c; exact ⟨m', E, pk_us⟩
      · obtain ⟨m, e1, e2⟩ := T i (by omega) h2
        exact ⟨m, e1, (pk_un (by omega)).trans e2⟩)
    refine ⟨en', T', fun p hp => (U' p hp).trans (pk_un (hp l (by omega))), fun post f hf hp => ?_⟩
    obtain ⟨f, rfl⟩ : ∃ f', f = f' + 1 := ⟨f - 1, by omega⟩
    have q := W' post f (by omega) hp
    rw [show bl_yb r + (l + 1) = bl_yb r + l + 1 from rfl, pk_m1]
    refine br_f (nI_nlt (by omega) (by omega)) (nm_r (e' := nI (bl_yb r + (l + 1))) (nI_1 _) ⟨4, ?_⟩)
    exact bl_fe_in hk hr hn hy V (by omega) E (fun i h1 h2 => T i (by omega) h2) q (bl_rg kX r l) 0 (l + 1) (by omega) rfl 4 (Nat.lt_of_le_of_lt (bl_ar_le _) (by decide))
theorem bl_fe (hk : ∀ p, p < 240 → bl_tk (kX p) (vX p)) (hr : r < 5) (hn : n ≤ 48) (hy : ∀ i, i < n → kY (bl_yb r + i) = kX (48 * r + i)) (V : pf_V (bl_rg kX r) n) : ∃ en' : Nat → Int32, (∀ i, i < n → ∃ m, pf_E (bl_rg kX r) i m ∧ en' (bl_yb r + i) = nI (bl_yb r + m)) ∧ (∀ p, (∀ i, i < n → p ≠ bl_yb r + i) → en' p = en p) ∧ ∀ post : SY → Prop, post (yen, ycl, yw, yb, xst, ym, ya, ys, yk, yv, yc, yt, rk, rv, kY, nY, en', ln, pr, sp, pk, pv, th, ss, po, so, cy, cb, cs, gt, ph, ge, gk, gv, bp, ok, ov, ob) → wpY_findEnds post (yen, ycl, yw, yb, xst, ym, ya, ys, yk, yv, yc, yt, rk, rv, kY, nY, en, ln, pr, sp, pk, pv, th, ss, po, so, cy, cb, cs, gt, ph, ge, gk, gv, bp, ok, ov, ob) (nI (bl_yb r)) (nI n) := by
  obtain ⟨en', T, U, W⟩ := bl_fe_out (kX := kX) (vX := vX) (yen := yen) (ycl := ycl) (yw := yw) (xst := xst) (ym := ym) (ya := ya) (ys := ys) (yk := yk) (yv := yv) (yc := yc) (yt := yt) (rk := rk) (rv := rv) (kY := kY) (nY := nY) (ln := ln) (pr := pr) (sp := sp) (pk := pk) (pv := pv) (th := th) (ss := ss) (po := po) (so := so) (cy := cy) (cb := cb) (cs := cs) (gt := gt) (ph := ph) (ge := ge) (gk := gk) (gv := gv) (bp := bp) (ok := ok) (ov := ov) (ob := ob) (yb := yb) hk hr hn hy V n en (Nat.le_refl _) (fun i h1 h2 => by omega)
  refine ⟨en', T, U, fun post hp => nm_r (e' := nI (bl_yb r + n) + (-1)) ?_ ⟨n + 1, W post (n + 1) (by omega) hp⟩⟩
  rw [nI_add]
  exact Int32.sub_eq_add_neg _ _
theorem bl_x_fin {post : SX → Prop} (hp : post (dl, lr, lc, xst, xd, xcl, xsc, xm, xa, xs, xb, xg, xe, kX, vX, df, pr, sp, (fun i => if i < 32 ∧ (20000000000 : Int64) ≤ pl i then 10000000000 else pl i), th, fc, fs, fb, fd, fv, fe, kp, kv, cc, cs, ss, sv, so)) : ∃ m, wX_finishRun_55 post dl lr lc xst xd xcl xsc xm xa xs xb xg xe m 0 kX vX df pr sp pl th fc fs fb fd fv fe kp kv cc cs ss sv so := by
  have key : ∀ f l, l ≤ 32 → 32 - l < f → wX_finishRun_55 post dl lr lc xst xd xcl xsc xm xa xs xb xg xe f (nI l) kX vX df pr sp (fun i => if i < l ∧ (20000000000 : Int64) ≤ pl i then 10000000000 else pl i) th fc fs fb fd fv fe kp kv cc cs ss sv so := by
    intro f
    induction f with
    | zero => intro l _ h; omega
    | succ f ih =>
      intro l h1 h2
      by_cases c : l = 32
      · subst c
        exact br_t (by decide) hp
      · have cl0 : (nI l).toNatClampNeg = l := nI_clamp (by omega)
        have i1 : vp_in (nI l) 32 := vp_in_nI (by omega) (by decide)
        have q := ih (l + 1) (by omega) (by omega)
        refine br_f (nI_ge (b := 32) (by omega) (by decide)) ⟨i1, ?_⟩
        rw [cl0]
        have e0 : (fun i => if i < l ∧ (20000000000 : Int64) ≤ pl i then 10000000000 else pl i) l = pl l := if_neg (fun z => absurd z.1 (by omega))
        rw [e0]
        by_cases z : pl l < 20000000000
        · refine br_t z (br_t rfl (nm_r (nI_1 l) ?_))
          have e : (fun i => if i < l + 1 ∧ (20000000000 : Int64) ≤ pl i then 10000000000 else pl i) = (fun i => if i < l ∧ (20000000000 : Int64) ≤ pl i then 10000000000 else pl i) := by
            funext i
            by_cases y : i = l
            · subst y
              rw [if_neg (fun w => absurd z (Int64.not_lt.mpr w.2)), if_neg (fun w => absurd w.1 (by omega))]
            · have : (i < l + 1 ∧ (20000000000 : Int64) ≤ pl i) ↔ (i < l ∧ (20000000000 : Int64) ≤ pl i) := ⟨fun w => ⟨by omega, w.2⟩, fun w => ⟨by omega, w.2⟩⟩
              simp only [this]
          rw [e] at q
          exact q
        · refine br_f z (br_f (by decide) ⟨i1, nm_r (e' := (fun i => if i < l + 1 ∧ (20000000000 : Int64) ≤ pl i then 10000000000 else pl i)) ?_ (nm_r (nI_1 l) q)⟩)
          funext i
          unfold vp_updL
          by_cases y : i = l
          · subst y
            rw [if_pos rfl, if_pos ⟨by omega, Int64.not_lt.mp z⟩]
          · have : (i < l + 1 ∧ (20000000000 : Int64) ≤ pl i) ↔ (i < l ∧ (20000000000 : Int64) ≤ pl i) := ⟨fun w => ⟨by omega, w.2⟩, fun w => ⟨by omega, w.2⟩⟩
            rw [if_neg y]
            simp only [this]
  have q := key 33 0 (by omega) (by omega)
  have e : (fun i => if i < 0 ∧ (20000000000 : Int64) ≤ pl i then 10000000000 else pl i) = pl := by
    funext i
    rw [if_neg (fun w => absurd w.1 (by omega))]
  rw [e] at q
  exact ⟨33, q⟩
theorem bl_y_fin {post : Int32 → SY → Prop} {ans : Int32} (ha : (ym = 0 ∧ ans = 0) ∨ (ym = 3 ∧ ans = 5) ∨ (ym = 2 ∧ ans = yc)) (hp : post ans (yen, ycl, yw, yb, xst, ym, ya, ys, yk, yv, yc, yt, rk, rv, kY, nY, en, ln, pr, sp, (fun i => if i < 32 ∧ pk i = 1 then 2 else pk i), pv, th, ss, po, so, cy, cb, cs, gt, ph, ge, gk, gv, bp, ok, ov, ob)) : ∃ m, wY_run_187 post yen ycl yw yb xst ym ya ys yk yv yc yt rk rv m 0 kY nY en ln pr sp pk pv th ss po so cy cb cs gt ph ge gk gv bp ok ov ob := by
  have key : ∀ f l, l ≤ 32 → 32 - l < f → wY_run_187 post yen ycl yw yb xst ym ya ys yk yv yc yt rk rv f (nI l) kY nY en ln pr sp (fun i => if i < l ∧ pk i = 1 then 2 else pk i) pv th ss po so cy cb cs gt ph ge gk gv bp ok ov ob := by
    intro f
    induction f with
    | zero => intro l _ h; omega
    | succ f ih =>
      intro l h1 h2
      by_cases c : l = 32
      · subst c
        refine br_t (by decide) ?_
        rcases ha with ⟨rfl, rfl⟩ | ⟨rfl, rfl⟩ | ⟨rfl, rfl⟩
        · exact br_t rfl hp
        · exact br_f (by decide) (br_t rfl hp)
        · exact br_f (by decide) (br_f (by decide) hp)
      · have cl0 : (nI l).toNatClampNeg = l := nI_clamp (by omega)
        have i1 : vp_in (nI l) 340 := vp_in_nI (by omega) (by decide)
        have q := ih (l + 1) (by omega) (by omega)
        refine br_f (nI_ge (b := 32) (by omega) (by decide)) ⟨i1, ?_⟩
        rw [cl0]
        have e0 : (fun i => if i < l ∧ pk i = 1 then 2 else pk i) l = pk l := if_neg (fun z => absurd z.1 (by omega))
        rw [e0]
        by_cases z : pk l = 1
        · refine br_t z ⟨i1, nm_r (e' := (fun i => if i < l + 1 ∧ pk i = 1 then 2 else pk i)) ?_ (nm_r (nI_1 l) q)⟩
          funext i
          unfold upd
          by_cases y : i = l
          · subst y
            rw [if_pos rfl, if_pos ⟨by omega, z⟩]
          · have : (i < l + 1 ∧ pk i = 1) ↔ (i < l ∧ pk i = 1) := ⟨fun w => ⟨by omega, w.2⟩, fun w => ⟨by omega, w.2⟩⟩
            rw [if_neg y]
            simp only [this]
        · refine br_f z (nm_r (nI_1 l) ?_)
          have e : (fun i => if i < l + 1 ∧ pk i = 1 then 2 else pk i) = (fun i => if i < l ∧ pk i = 1 then 2 else pk i) := by
            funext i
            by_cases y : i = l
            · subst y
              rw [if_neg (fun w => absurd w.2 z), if_neg (fun w => absurd w.1 (by omega))]
            · have : (i < l + 1 ∧ pk i = 1) ↔ (i < l ∧ pk i = 1) := ⟨fun w => ⟨by omega, w.2⟩, fun w => ⟨by omega, w.2⟩⟩
              simp only [this]
          rw [e] at q
          exact q
  have q := key 33 0 (by omega) (by omega)
  have e : (fun i => if i < 0 ∧ pk i = 1 then 2 else pk i) = pk := by
    funext i
    rw [if_neg (fun w => absurd w.1 (by omega))]
  rw [e] at q
  exact ⟨33, q⟩
theorem bl_Po_fin (hc : cl < 1000) (P : bl_Po cl pl pk pv) : bl_Po 0 (fun i => if i < 32 ∧ (20000000000 : Int64) ≤ pl i then 10000000000 else pl i) (fun i => if i < 32 ∧ pk i = 1 then 2 else pk i) pv := by
  intro i hi
  have h := P i hi
  have hcl := bl_vr_c hc h
  show bl_vr 0 (if i < 32 ∧ (20000000000 : Int64) ≤ pl i then 10000000000 else pl i) (if i < 32 ∧ pk i = 1 then 2 else pk i) (pv i)
  by_cases z : pk i = 1
  · rw [if_pos ⟨hi, hcl.mpr z⟩, if_pos ⟨hi, z⟩]
    exact Or.inr (Or.inr ⟨rfl, rfl⟩)
  · rw [if_neg (fun w => z (hcl.mp w.2)), if_neg (fun w => z w.2)]
    rcases h with h | h | h
    · exact Or.inl h
    · exact absurd h.1 z
    · exact Or.inr (Or.inr h)
end
end
section
/-! define -/
section
variable {dl lc xst xd xcl xsc xm xa xs xb xe yen ycl yw ym ya ys yk yv yc yt rk rv : Int32}
variable {lr xg : Int64}
variable {kX vX df pr sp th fc fs fb fd fe kp cc cs ss so kY nY en ln pk pv po cy cb gt ph ge gk gv bp ok ov ob : Nat → Int32}
variable {pl fv kv sv : Nat → Int64}
variable {L : Nat → Nat} {k n : Nat} {yb a : Int32}
theorem bl_x_cp (hk : k < 4) (hn : n ≤ 48) {post : Int32 → SX → Prop} (hp : ∀ kX' vX' : Nat → Int32, (∀ i, i < n → kX' (48 * (k + 1) + i) = kX i ∧ vX' (48 * (k + 1) + i) = vX i) → (∀ p, (∀ i, i < n → p ≠ 48 * (k + 1) + i) → kX' p = kX p ∧ vX' p = vX p) → post 1 (0, lr, lc, xst, xd, xcl, xsc, xm, xa, xs, xb, xg, xe, kX', vX', (upd df k 1), (upd pr k a), sp, pl, th, fc, fs, fb, fd, fv, fe, kp, kv, cc, cs, ss, sv, so)) : ∃ m, wX_define_33 post (nI k) a (nI (48 * (k + 1))) (nI n) lr lc xst xd xcl xsc xm xa xs xb xg xe m 0 kX vX df pr sp pl th fc fs fb fd fv fe kp kv cc cs ss sv so := by
  have ck : (nI k).toNatClampNeg = k := nI_clamp (by omega)
  have k4 : vp_in (nI k) 4 := vp_in_nI hk (by decide)
  have key : ∀ f l (kX' vX' : Nat → Int32), l ≤ n → n - l < f → (∀ i, i < l → kX' (48 * (k + 1) + i) = kX i ∧ vX' (48 * (k + 1) + i) = vX i) → (∀ p, (∀ i, i < l → p ≠ 48 * (k + 1) + i) → kX' p = kX p ∧ vX' p = vX p) → wX_define_33 post (nI k) a (nI (48 * (k + 1))) (nI n) lr lc xst xd xcl xsc xm xa xs xb xg xe f (nI l) kX' vX' df pr sp pl th fc fs fb fd fv fe kp kv cc cs ss sv so := by
    intro f
    induction f with
    | zero => intro l _ _ _ h; omega
    | succ f ih =>
      intro l kX' vX' h1 h2 A B
      by_cases c : l = n
      · subst c
        exact br_t (nI_le (Nat.le_refl _) (by omega)) ⟨k4, nm_r (e' := upd pr k a) (by rw [ck]) ⟨k4, nm_r (e' := upd df k 1) (by rw [ck, bl_nb1]) (hp kX' vX' A B)⟩⟩
      · have cl0 : (nI l).toNatClampNeg = l := nI_clamp (by omega)
        have i1 : vp_in (nI l) 240 := vp_in_nI (by omega) (by decide)
        have ea : nI (48 * (k + 1)) + nI l = nI (48 * (k + 1) + l) := nI_add _ _
        have i2 : vp_in (nI (48 * (k + 1) + l)) 240 := vp_in_nI (by omega) (by decide)
        have ca : (nI (48 * (k + 1) + l)).toNatClampNeg = 48 * (k + 1) + l := nI_clamp (by omega)
        have bl := B l (fun i hi => by omega)
        refine br_f (nI_ge (by omega) (by omega)) ⟨i1, ?_⟩
        rw [ea, ca, cl0]
        refine ⟨i2, nm_e ⟨i1, i2, nm_e (nm_r (nI_1 l) (ih (l + 1) _ _ (by omega) (by omega) (fun i hi => ?_) (fun p hq => ?_)))⟩⟩
        · by_cases e : i = l
          · subst e
            rw [pk_us, pk_us]; exact bl
          · rw [pk_un (by omega), pk_un (by omega)]; exact A i (by omega)
        · rw [pk_un (hq l (by omega)), pk_un (hq l (by omega))]
          exact B p (fun i hi => hq i (by omega))
  exact ⟨n + 1, key (n + 1) 0 kX vX (by omega) (by omega) (fun i hi => by omega) (fun p _ => ⟨rfl, rfl⟩)⟩
theorem bl_y_cp (hk : k < 4) (hn : n ≤ 48) (hln : ln 4 = nI n) {post : Int32 → SY → Prop} (hp : ∀ kY' nY' : Nat → Int32, (∀ i, i < n → kY' (48 * k + i) = kY (192 + i) ∧ nY' (48 * k + i) = nY (192 + i)) → (∀ p, (∀ i, i < n → p ≠ 48 * k + i) → kY' p = kY p ∧ nY' p = nY p) → ∃ en' : Nat → Int32, (∀ post' : SY → Prop, post' (yen, ycl, yw, yb, xst, ym, ya, ys, yk, yv, yc, yt, rk, rv, kY', nY', en', (upd ln k (nI n)), (upd pr k a), sp, pk, pv, th, ss, po, so, cy, cb, cs, gt, ph, ge, gk, gv, bp, ok, ov, ob) → wpY_findEnds post' (yen, ycl, yw, yb, xst, ym, ya, ys, yk, yv, yc, yt, rk, rv, kY', nY', en, (upd ln k (nI n)), (upd pr k a), sp, pk, pv, th, ss, po, so, cy, cb, cs, gt, ph, ge, gk, gv, bp, ok, ov, ob) (nI (bl_yb (k + 1))) (nI n)) ∧ post 1 (yen, ycl, yw, yb, xst, ym, ya, ys, yk, yv, yc, yt, rk, rv, kY', nY', en', (upd (upd ln k (nI n)) 4 0), (upd pr k a), sp, pk, pv, th, ss, po, so, cy, cb, cs, gt, ph, ge, gk, gv, bp, ok, ov, ob)) : ∃ m, wY_define_28 post (nI k) a yen ycl yw yb xst ym ya ys yk yv yc yt rk rv m 0 kY nY en ln pr sp pk pv th ss po so cy cb cs gt ph ge gk gv bp ok ov ob := by
  have ck : (nI k).toNatClampNeg = k := nI_clamp (by omega)
  have k4 : vp_in (nI k) 4 := vp_in_nI hk (by decide)
  have k5 : vp_in (nI k) 5 := vp_in_nI (by omega) (by decide)
  have e48 : (48 : Int32) * nI k = nI (48 * k) := pk_mul 48 k
  have eyb : bl_yb (k + 1) = 48 * k := by unfold bl_yb; rw [if_neg (by omega)]; omega
  have key : ∀ f l (kY' nY' : Nat → Int32), l ≤ n → n - l < f → (∀ i, i < l → kY' (48 * k + i) = kY (192 + i) ∧ nY' (48 * k + i) = nY (192 + i)) → (∀ p, (∀ i, i < l → p ≠ 48 * k + i) → kY' p = kY p ∧ nY' p = nY p) → wY_define_28 post (nI k) a yen ycl yw yb xst ym ya ys yk yv yc yt rk rv f (nI l) kY' nY' en ln pr sp pk pv th ss po so cy cb cs gt ph ge gk gv bp ok ov ob := by
    intro f
    induction f with
    | zero => intro l _ _ _ h; omega
    | succ f ih =>
      intro l kY' nY' h1 h2 A B
      by_cases c : l = n
      · subst c
        obtain ⟨en', W, hP⟩ := hp kY' nY' A B
        refine br_t (by rw [hln]; exact nI_le (Nat.le_refl _) (by omega)) ⟨k5, nm_r (e' := upd ln k (nI l)) (by rw [ck, hln]) ⟨k4, nm_r (e' := upd pr k a) (by rw [ck]) ⟨k5, ?_⟩⟩⟩
        rw [ck, pk_us, e48, ← eyb]
        exact W _ (nm_e hP)
      · have ea : nI (48 * k) + nI l = nI (48 * k + l) := nI_add _ _
        have eb : (192 : Int32) + nI l = nI (192 + l) := nI_add 192 l
        have i1 : vp_in (nI (192 + l)) 240 := vp_in_nI (by omega) (by decide)
        have i2 : vp_in (nI (48 * k + l)) 240 := vp_in_nI (by omega) (by decide)
        have ca : (nI (48 * k + l)).toNatClampNeg = 48 * k + l := nI_clamp (by omega)
        have cb : (nI (192 + l)).toNatClampNeg = 192 + l := nI_clamp (by omega)
        have bl := B (192 + l) (fun i hi => by omega)
        refine br_f (by rw [hln]; exact nI_ge (by omega) (by omega)) ?_
        rw [e48, ea, eb, ca, cb]
        refine ⟨i1, i2, nm_e ⟨i1, i2, nm_e (nm_r (nI_1 l) (ih (l + 1) _ _ (by omega) (by omega) (fun i hi => ?_) (fun p hq => ?_)))⟩⟩
        · by_cases e : i = l
          · subst e
            rw [pk_us, pk_us]; exact bl
          · rw [pk_un (by omega), pk_un (by omega)]; exact A i (by omega)
        · rw [pk_un (hq l (by omega)), pk_un (hq l (by omega))]
          exact B p (fun i hi => hq i (by omega))
  exact ⟨n + 1, key (n + 1) 0 kY nY (by omega) (by omega) (fun i hi => by omega) (fun p _ => ⟨rfl, rfl⟩)⟩
end
theorem i_vc_define {k : Nat} {u : SX} {v : SY} (I : i_Rel k u v) (hk : k + 3 ≤ 1536) (v1 : Int32) (v2 : Int32) : wpX_define (fun r u' => wpY_define (fun r' v' => r' = r ∧ i_Rel (k + 3) u' v') v v1 v2) u v1 v2 := by
  obtain ⟨dl, lr, lc, xst, xd, xcl, xsc, xm, xa, xs, xb, xg, xe, kX, vX, df, pr, sp, pl, th, fc, fs, fb, fd, fv, fe, kp, kv, cc, cs, ss, sv, so⟩ := u
  obtain ⟨yen, ycl, yw, xb', xst', ym, ya, ys, yk, yv, yc, yt, rk, rv, kY, nY, en, ln, pr', sp', pk, pv, th', ss', po, so', cy, cb, cs', gt, ph, ge, gk, gv, bp, ok, ov, ob⟩ := v
  obtain ⟨⟨rfl, rfl, rfl, rfl, rfl, rfl, rfl⟩, L, B⟩ := I
  have J := B
  obtain ⟨b1, b2, b3, b4, b5, b6, b7⟩ := B
  subst b1
  have l0 := b3.1 0 (by omega)
  have hy : ∀ i, i < 48 → kY (192 + i) = kX i := by
    intro i hi
    have q := (b3.2.1 0 (by omega) i hi).1
    rw [show 48 * 0 + i = i from by omega] at q
    exact q
  have hy2 : ∀ i, i < 48 → nY (192 + i) = vX i := by
    intro i hi
    have q := (b3.2.1 0 (by omega) i hi).2
    rw [show 48 * 0 + i = i from by omega] at q
    exact q
  obtain ⟨b, hb, hX, hY⟩ := bl_isx (lr := lr) (lc := lc) (xst := xst') (xd := xd) (xcl := xcl) (xsc := xsc) (xm := xm) (xa := xa) (xs := xs) (xb := xb) (xg := xg) (xe := xe) (kX := kX) (vX := vX) (df := df) (pr := pr') (sp := sp') (pl := pl) (th := th') (fc := fc) (fs := fs) (fb := fb) (fd := fd) (fv := fv) (fe := fe) (kp := kp) (kv := kv) (cc := cc) (cs := cs') (ss := ss') (sv := sv) (so := so') (yen := yen) (ycl := ycl) (yw := yw) (ym := ym) (ya := ya) (ys := ys) (yk := yk) (yv := yv) (yc := yc) (yt := yt) (rk := rk) (rv := rv) (kY := kY) (nY := nY) (en := en) (ln := ln) (pk := pk) (pv := pv) (po := po) (cy := cy) (cb := cb) (gt := gt) (ph := ph) (ge := ge) (gk := gk) (gv := gv) (bp := bp) (ok := ok) (ov := ov) (ob := ob) (yb := xb') (n := L 0) b3.2.2 hy l0 b2
  rcases bl_ix v1 (n := 4) (by decide) with h | ⟨h, g⟩ | ⟨f, hf, rfl⟩
  · exact br_t h (br_t h (br_t rfl ⟨rfl, ⟨⟨rfl, rfl, rfl, rfl, rfl, rfl, rfl⟩, L, J⟩⟩))
  · exact br_f h (br_t g (br_f h (br_t g (br_t rfl ⟨rfl, ⟨⟨rfl, rfl, rfl, rfl, rfl, rfl, rfl⟩, L, J⟩⟩))))
  have a1 : ¬ nI f < 0 := nI_pos (by omega)
  have a2 : ¬ nI 4 ≤ nI f := nI_ge hf (by decide)
  rcases bl_ix v2 (n := 8) (by decide) with h | ⟨h, g⟩ | ⟨j, hj, rfl⟩
  · exact br_f a1 (br_f a2 (br_t h (br_t rfl (br_f a1 (br_f a2 (br_f (by decide) (br_t h (br_t rfl ⟨rfl, ⟨⟨rfl, rfl, rfl, rfl, rfl, rfl, rfl⟩, L, J⟩⟩))))))))
  · exact br_f a1 (br_f a2 (br_f h (br_t g (br_t rfl (br_f a1 (br_f a2 (br_f (by decide) (br_f h (br_t g (br_t rfl ⟨rfl, ⟨⟨rfl, rfl, rfl, rfl, rfl, rfl, rfl⟩, L, J⟩⟩))))))))))
  have a3 : ¬ nI j < 0 := nI_pos (by omega)
  have a4 : ¬ nI 8 ≤ nI j := nI_ge hj (by decide)
  have eX : (nI f + 1) * 48 = nI (48 * (f + 1)) := by
    rw [nI_1, show (48 : Int32) = nI 48 from rfl, pk_mul, Nat.mul_comm]
  refine br_f a1 (br_f a2 (br_f a3 (br_f a4 (br_f (by decide) ?_))))
  refine hX _ ?_
  rcases hb with ⟨rfl, Vd⟩ | rfl
  · refine br_f (by decide) ?_
    show ∃ n33 : Nat, wX_define_33 _ (nI f) (nI j) ((nI f + 1) * 48) (nI (L 0)) lr lc xst' xd xcl xsc xm xa xs xb xg xe n33 0 kX vX df pr' sp' pl th' fc fs fb fd fv fe kp kv cc cs' ss' sv so'
    rw [eX]
    refine bl_x_cp hf l0 (fun kX' vX' AX BX => ?_)
    refine br_f a1 (br_f a2 (br_f (by decide) (br_f a3 (br_f a4 (br_f (by decide) ?_)))))
    refine hY _ ?_
    refine br_f (by decide) ?_
    refine bl_y_cp hf l0 b2 (fun kY' nY' AY BY => ?_)
    have ey : bl_yb (f + 1) = 48 * f := by unfold bl_yb; rw [if_neg (by omega)]; omega
    have n0 : 0 < L 0 := by
      by_cases z : L 0 = 0
      · have := Vd.2
        rw [z] at this
        have e1 : pf_D (bl_rg kX 0) 0 = 1 := rfl
        omega
      · omega
    have tk' : ∀ p, p < 240 → bl_tk (kX' p) (vX' p) := by
      intro p hp
      by_cases z : ∃ i, i < L 0 ∧ p = 48 * (f + 1) + i
      · obtain ⟨i, hi, rfl⟩ := z
        rw [(AX i hi).1, (AX i hi).2]
        exact b3.2.2 i (by omega)
      · have q := BX p (fun i hi e => z ⟨i, hi, e⟩)
        rw [q.1, q.2]
        exact b3.2.2 p hp
    have co : ∀ r, r < 5 → ∀ i, i < 48 → kY' (bl_yb r + i) = kX' (48 * r + i) ∧ nY' (bl_yb r + i) = vX' (48 * r + i) := by
      intro r hr i hi
      by_cases z : r = f + 1 ∧ i < L 0
      · obtain ⟨rfl, hi2⟩ := z
        rw [ey, (AY i hi2).1, (AY i hi2).2, (AX i hi2).1, (AX i hi2).2]
        exact ⟨hy i hi, hy2 i hi⟩
      · have qX := BX (48 * r + i) (fun i' hi' e => z (by omega))
        have qY := BY (bl_yb r + i) (fun i' hi' e => by
          by_cases z2 : r = f + 1
          · subst z2
            rw [ey] at e
            exact z ⟨rfl, by omega⟩
          · rw [← ey] at e
            exact bl_yb_ne hr (by omega) z2 hi (by omega) e)
        rw [qX.1, qX.2, qY.1, qY.2]
        exact b3.2.1 r hr i hi
    have V' : pf_V (bl_rg kX' (f + 1)) (L 0) := by
      refine pf_V_cg (fun i hi => ?_) Vd
      show bl_ar (kX' (48 * (f + 1) + i)) = bl_ar (kX (48 * 0 + i))
      rw [(AX i hi).1, show 48 * 0 + i = i from by omega]
    obtain ⟨en', T, U, W⟩ := bl_fe (kX := kX') (vX := vX') (r := f + 1) (n := L 0) (yen := yen) (ycl := ycl) (yw := yw) (xst := xst') (ym := ym) (ya := ya) (ys := ys) (yk := yk) (yv := yv) (yc := yc) (yt := yt) (rk := rk) (rv := rv) (kY := kY') (nY := nY') (en := en) (ln := upd ln f (nI (L 0))) (pr := upd pr' f (nI j)) (sp := sp') (pk := pk) (pv := pv) (th := th') (ss := ss') (po := po) (so := so') (cy := cy) (cb := cb) (cs := cs') (gt := gt) (ph := ph) (ge := ge) (gk := gk) (gv := gv) (bp := bp) (ok := ok) (ov := ov) (ob := ob) (yb := xb') tk' (by omega) l0 (fun i hi => (co (f + 1) (by omega) i (by omega)).1) V'
    refine ⟨en', W, rfl, ⟨rfl, rfl, rfl, rfl, rfl, rfl, rfl⟩, fun r => if r = 0 then 0 else if r = f + 1 then L 0 else L r, rfl, pk_us, ⟨fun r hr => ?_, co, tk'⟩, fun r h0 hr hl => ?_, ⟨fun m hm => ?_, fun m hm => ?_⟩, b6, b7⟩
    · show (if r = 0 then 0 else if r = f + 1 then L 0 else L r) ≤ 48
      split
      · omega
      · split
        · exact l0
        · exact b3.1 r hr
    · have hl : 0 < (if r = 0 then 0 else if r = f + 1 then L 0 else L r) := hl
      rw [if_neg (by omega)] at hl
      by_cases z : r = f + 1
      · subst z
        have eL : (fun r => if r = 0 then 0 else if r = f + 1 then L 0 else L r) (f + 1) = L 0 := by
          show (if f + 1 = 0 then 0 else if f + 1 = f + 1 then L 0 else L (f + 1)) = L 0
          rw [if_neg (by omega), if_pos rfl]
        refine ⟨?_, ?_⟩
        · rw [eL]; exact V'
        · rw [eL]; exact T
      · rw [if_neg z] at hl
        refine bl_Re_cg (L := L) (kX := kX) (en := en) ?_ (b3.1 r hr) (fun i hi => ?_) (fun i hi => ?_) (b4 r h0 hr hl)
        · show (if r = 0 then 0 else if r = f + 1 then L 0 else L r) = L r
          rw [if_neg (by omega), if_neg z]
        · have := b3.1 r hr
          exact (BX (48 * r + i) (fun i' hi' e => by omega)).1
        · have := b3.1 r hr
          exact U (bl_yb r + i) (fun i' hi' => bl_yb_ne hr (by omega) z (by omega) (by omega))
    · show (upd df f 1 m = 0 ∧ (if m + 1 = 0 then 0 else if m + 1 = f + 1 then L 0 else L (m + 1)) = 0 ∧ upd (upd ln f (nI (L 0))) 4 0 m = 0) ∨ (upd df f 1 m = 1 ∧ 0 < (if m + 1 = 0 then 0 else if m + 1 = f + 1 then L 0 else L (m + 1)) ∧ upd (upd ln f (nI (L 0))) 4 0 m = nI (if m + 1 = 0 then 0 else if m + 1 = f + 1 then L 0 else L (m + 1)))
      rw [if_neg (by omega), pk_un (f := upd ln f (nI (L 0))) (k := 4) (j := m) (by omega)]
      by_cases z : m = f
      · subst z
        rw [if_pos rfl, pk_us, pk_us]
        exact Or.inr ⟨rfl, n0, rfl⟩
      · rw [if_neg (by omega), pk_un z, pk_un z]
        exact b5.1 m hm
    · by_cases z : m = f
      · subst z
        exact ⟨j, hj, pk_us⟩
      · obtain ⟨j', hj', e'⟩ := b5.2 m hm
        exact ⟨j', hj', (pk_un z).trans e'⟩
  · refine br_t rfl ?_
    refine br_f a1 (br_f a2 (br_f (by decide) (br_f a3 (br_f a4 (br_f (by decide) ?_)))))
    refine hY _ ?_
    exact br_t rfl ⟨rfl, ⟨⟨rfl, rfl, rfl, rfl, rfl, rfl, rfl⟩, L, J⟩⟩
end
section
/-! run -/
theorem bl_fin {L : Nat → Nat} {u : SX} {v : SY} (F : bl_Fi L u v) : ∃ (a : Int32) (u' : SX) (v' : SY), i_Rel 0 u' v' ∧ (∀ post : Int32 → SX → Prop, post a u' → bl_xz post u) ∧ (∀ post : Int32 → SY → Prop, post a v' → bl_yz post v) := by
  obtain ⟨dl, lr, lc, xst, xd, xcl, xsc, xm, xa, xs, xb, xg, xe, kX, vX, df, pr, sp, pl, th, fc, fs, fb, fd, fv, fe, kp, kv, cc, cs, ss, sv, so⟩ := u
  obtain ⟨yen, ycl, yw, xb', xst', ym, ya, ys, yk, yv, yc, yt, rk, rv, kY, nY, en, ln, pr', sp', pk, pv, th', ss', po, so', cy, cb, cs', gt, ph, ge, gk, gv, bp, ok, ov, ob⟩ := v
  obtain ⟨⟨rfl, rfl, rfl, rfl, rfl, rfl, rfl⟩, cl, hc, C, P, M⟩ := F
  have f0 : narrow .boolean (.int 0) = .int 0 := rfl
  have f1 : narrow .boolean (.int 1) = .int 1 := rfl
  have g0 : fits .boolean (.int 0) = true := by decide
  have g1 : fits .boolean (.int 1) = true := by decide
  rcases M with ⟨rfl, rfl, hg⟩ | ⟨c, c1, c2, rfl, rfl, rfl⟩ | ⟨rfl, rfl⟩
  · rcases hg with ⟨rfl, rfl⟩ | ⟨rfl, n, hn, rfl, rfl⟩
    · exact ⟨0, (dl, yv.toInt64, 0, xst', xd, xcl, xsc, xm, xa, xs, xb, yv.toInt64, 0, kX, vX, df, pr', sp', (fun i => if i < 32 ∧ (20000000000 : Int64) ≤ pl i then 10000000000 else pl i), th', fc, fs, fb, fd, fv, fe, kp, kv, cc, cs', ss', sv, so'), (yen, ycl, yw, xb', xst', 0, ya, ys, 0, yv, yc, yt, 0, yv, kY, nY, en, ln, pr', sp', (fun i => if i < 32 ∧ pk i = 1 then 2 else pk i), pv, th', ss', po, so', cy, cb, cs', gt, ph, ge, gk, gv, bp, ok, ov, ob), ⟨⟨rfl, rfl, rfl, rfl, rfl, rfl, rfl⟩, L, C.2.2.2.2.1, C.2.2.2.2.2, C.1, fun r _ hr hl => C.2.1 r hr hl, ⟨C.2.2.1, C.2.2.2.1⟩, bl_Po_fin hc P, Or.inl ⟨rfl, rfl, rfl⟩⟩, fun post hp => br_t (bl_lt_int _) (br_t rfl (br_t rfl ⟨f0, g0, br_t rfl (br_t rfl (bl_x_fin hp))⟩)), fun post hp => br_t rfl (bl_y_fin (Or.inl ⟨rfl, rfl⟩) hp)⟩
    · exact ⟨0, (dl, 10000000000, 1, xst', xd, xcl, xsc, xm, xa, xs, xb, (20000000000 + lN n), 0, kX, vX, df, pr', sp', (fun i => if i < 32 ∧ (20000000000 : Int64) ≤ pl i then 10000000000 else pl i), th', fc, fs, fb, fd, fv, fe, kp, kv, cc, cs', ss', sv, so'), (yen, ycl, yw, xb', xst', 0, ya, ys, 1, (nI n), yc, yt, 1, (nI n), kY, nY, en, ln, pr', sp', (fun i => if i < 32 ∧ pk i = 1 then 2 else pk i), pv, th', ss', po, so', cy, cb, cs', gt, ph, ge, gk, gv, bp, ok, ov, ob), ⟨⟨rfl, rfl, rfl, rfl, rfl, rfl, rfl⟩, L, C.2.2.2.2.1, C.2.2.2.2.2, C.1, fun r _ hr hl => C.2.1 r hr hl, ⟨C.2.2.1, C.2.2.2.1⟩, bl_Po_fin hc P, Or.inr (Or.inl ⟨rfl, rfl, rfl⟩)⟩, fun post hp => br_f (bl_nlt_cl (by omega)) (br_t rfl (br_f (by decide) ⟨f1, g1, br_t rfl (br_f (by decide) (bl_x_fin hp))⟩)), fun post hp => br_t rfl (bl_y_fin (Or.inl ⟨rfl, rfl⟩) hp)⟩
  · have ne : ¬ nI c = 0 := nI_ne0 (by omega) (by omega)
    exact ⟨nI c, (dl, 10000000000, 0, xst', xd, xcl, xsc, xm, xa, xs, xb, xg, (nI c), kX, vX, df, pr', sp', (fun i => if i < 32 ∧ (20000000000 : Int64) ≤ pl i then 10000000000 else pl i), th', fc, fs, fb, fd, fv, fe, kp, kv, cc, cs', ss', sv, so'), (yen, ycl, yw, xb', xst', 2, ya, ys, yk, yv, (nI c), yt, 2, yv, kY, nY, en, ln, pr', sp', (fun i => if i < 32 ∧ pk i = 1 then 2 else pk i), pv, th', ss', po, so', cy, cb, cs', gt, ph, ge, gk, gv, bp, ok, ov, ob), ⟨⟨rfl, rfl, rfl, rfl, rfl, rfl, rfl⟩, L, C.2.2.2.2.1, C.2.2.2.2.2, C.1, fun r _ hr hl => C.2.1 r hr hl, ⟨C.2.2.1, C.2.2.2.1⟩, bl_Po_fin hc P, Or.inr (Or.inr ⟨rfl, rfl, rfl⟩)⟩, fun post hp => br_c (fun _ => br_f ne ⟨f0, g0, br_f ne (bl_x_fin hp)⟩) (fun _ => br_f ne ⟨f0, g0, br_f ne (bl_x_fin hp)⟩), fun post hp => br_f (by decide) (bl_y_fin (Or.inr (Or.inr ⟨rfl, rfl⟩)) hp)⟩
  · exact ⟨5, (dl, 10000000000, 0, xst', xd, xcl, xsc, xm, xa, xs, xb, xg, 5, kX, vX, df, pr', sp', (fun i => if i < 32 ∧ (20000000000 : Int64) ≤ pl i then 10000000000 else pl i), th', fc, fs, fb, fd, fv, fe, kp, kv, cc, cs', ss', sv, so'), (yen, ycl, yw, xb', xst', 3, ya, ys, yk, yv, yc, yt, 2, yv, kY, nY, en, ln, pr', sp', (fun i => if i < 32 ∧ pk i = 1 then 2 else pk i), pv, th', ss', po, so', cy, cb, cs', gt, ph, ge, gk, gv, bp, ok, ov, ob), ⟨⟨rfl, rfl, rfl, rfl, rfl, rfl, rfl⟩, L, C.2.2.2.2.1, C.2.2.2.2.2, C.1, fun r _ hr hl => C.2.1 r hr hl, ⟨C.2.2.1, C.2.2.2.1⟩, bl_Po_fin hc P, Or.inr (Or.inr ⟨rfl, rfl, rfl⟩)⟩, fun post hp => br_c (fun _ => br_f (by decide) ⟨f0, g0, br_f (by decide) (bl_x_fin hp)⟩) (fun _ => br_f (by decide) ⟨f0, g0, br_f (by decide) (bl_x_fin hp)⟩), fun post hp => br_f (by decide) (bl_y_fin (Or.inr (Or.inl ⟨rfl, rfl⟩)) hp)⟩
theorem i_vc_run {k : Nat} {u : SX} {v : SY} (I : i_Rel k u v) (hk : k + 3 ≤ 1536) : wpX_run (fun r u' => wpY_run (fun r' v' => r' = r ∧ i_Rel (k + 3) u' v') v) u := by
  obtain ⟨dl, lr, lc, xst, xd, xcl, xsc, xm, xa, xs, xb, xg, xe, kX, vX, df, pr, sp, pl, th, fc, fs, fb, fd, fv, fe, kp, kv, cc, cs, ss, sv, so⟩ := u
  obtain ⟨yen, ycl, yw, xb', xst', ym, ya, ys, yk, yv, yc, yt, rk, rv, kY, nY, en, ln, pr', sp', pk, pv, th', ss', po, so', cy, cb, cs', gt, ph, ge, gk, gv, bp, ok, ov, ob⟩ := v
  obtain ⟨⟨rfl, rfl, rfl, rfl, rfl, rfl, rfl⟩, L, B⟩ := I
  have J := B
  obtain ⟨b1, b2, b3, b4, b5, b6, b7⟩ := B
  subst b1
  have l0 := b3.1 0 (by omega)
  have hy : ∀ i, i < 48 → kY (192 + i) = kX i := by
    intro i hi
    have q := (b3.2.1 0 (by omega) i hi).1
    rw [show 48 * 0 + i = i from by omega] at q
    exact q
  have hy2 : ∀ i, i < 48 → nY (192 + i) = vX i := by
    intro i hi
    have q := (b3.2.1 0 (by omega) i hi).2
    rw [show 48 * 0 + i = i from by omega] at q
    exact q
  obtain ⟨b, hb, hX, hY⟩ := bl_isx (lr := lr) (lc := lc) (xst := xst') (xd := xd) (xcl := xcl) (xsc := xsc) (xm := xm) (xa := xa) (xs := xs) (xb := xb) (xg := xg) (xe := xe) (kX := kX) (vX := vX) (df := df) (pr := pr') (sp := sp') (pl := pl) (th := th') (fc := fc) (fs := fs) (fb := fb) (fd := fd) (fv := fv) (fe := fe) (kp := kp) (kv := kv) (cc := cc) (cs := cs') (ss := ss') (sv := sv) (so := so') (yen := yen) (ycl := ycl) (yw := yw) (ym := ym) (ya := ya) (ys := ys) (yk := yk) (yv := yv) (yc := yc) (yt := yt) (rk := rk) (rv := rv) (kY := kY) (nY := nY) (en := en) (ln := ln) (pk := pk) (pv := pv) (po := po) (cy := cy) (cb := cb) (gt := gt) (ph := ph) (ge := ge) (gk := gk) (gv := gv) (bp := bp) (ok := ok) (ov := ov) (ob := ob) (yb := xb') (n := L 0) b3.2.2 hy l0 b2
  unfold wpX_run
  refine hX _ ?_
  rcases hb with ⟨rfl, Vd⟩ | rfl
  · refine br_f (by decide) ?_
    have n0 : 0 < L 0 := by
      by_cases z : L 0 = 0
      · have := Vd.2
        rw [z] at this
        have e1 : pf_D (bl_rg kX 0) 0 = 1 := rfl
        omega
      · omega
    obtain ⟨en', T, U, W⟩ := bl_fe (kX := kX) (vX := vX) (r := 0) (n := L 0) (yen := yen) (ycl := ycl) (yw := yw) (xst := xst') (ym := ym) (ya := ya) (ys := ys) (yk := yk) (yv := yv) (yc := yc) (yt := yt) (rk := rk) (rv := rv) (kY := kY) (nY := nY) (en := en) (ln := ln) (pr := pr') (sp := sp') (pk := pk) (pv := pv) (th := th') (ss := ss') (po := po) (so := so') (cy := cy) (cb := cb) (cs := cs') (gt := gt) (ph := ph) (ge := ge) (gk := gk) (gv := gv) (bp := bp) (ok := ok) (ov := ov) (ob := ob) (yb := xb') b3.2.2 (by omega) l0 (fun i hi => (b3.2.1 0 (by omega) i (by omega)).1) Vd
    have C : bl_Cf L (nI (L 0)) kX vX df pr' sp' kY nY en' ln := by
      refine ⟨b3, fun r hr hl => ?_, b5.1, b5.2, rfl, b2⟩
      by_cases z : r = 0
      · subst z
        exact ⟨Vd, T⟩
      · refine bl_Re_cg (L := L) (kX := kX) (en := en) rfl (b3.1 r hr) (fun i hi => rfl) (fun i hi => ?_) (b4 r (by omega) hr hl)
        have := b3.1 r hr
        exact U (bl_yb r + i) (fun i' hi' => bl_yb_ne hr (by omega) z (by omega) (by omega))
    have R0 : ∃ q, q < 999999 ∧ bl_RR L q ((nI (L 0)), lr, lc, (nI 0), (nI 0), (nI 0), (nI 0), 0, (nI (48 * 0 + 0)), (-1), 0, xg, xe, kX, vX, df, pr', sp', pl, th', fc, fs, fb, fd, fv, fe, kp, kv, cc, cs', ss', sv, so') ((nI 0), (nI 0), (nI 0), 0, (nI 0), 1, (nI (bl_yb 0 + 0)), (-1), yk, yv, 0, yt, rk, rv, kY, nY, en', ln, pr', sp', pk, pv, th', ss', po, so', cy, cb, cs', gt, ph, ge, gk, gv, bp, ok, ov, ob) := by
      refine ⟨3010 * (300 - 0) + 0 + 1, by omega, bl_mkE (s := 0) (cl := 0) (sc := 0) (d := 0) (h := 0) (st := 0) (r := 0) (t := 0) C (by omega) (by omega) (by omega) (by omega) (fun n hn => absurd hn (by omega)) (fun n hn => absurd hn (by omega)) b6 (fun n hn => absurd hn (by omega)) ⟨rfl, rfl, rfl⟩ (Or.inl rfl) (by omega) n0 rfl⟩
    obtain ⟨q, hq, R⟩ := R0
    obtain ⟨uf, vf, F, wX, wY⟩ := bl_main q _ _ R
    obtain ⟨a, u', v', hrel, fX, fY⟩ := bl_fin F
    refine ⟨q + 1, wX _ (q + 1) 0 (by omega) (by omega) (fX _ ?_)⟩
    unfold wpY_run
    refine hY _ ?_
    refine br_f (by decide) ?_
    rw [b2]
    refine W _ ?_
    exact ⟨q + 2, wY _ (q + 2) (by omega) (fY _ ⟨rfl, hrel⟩)⟩
  · refine br_t rfl ?_
    unfold wpY_run
    refine hY _ ?_
    exact br_t rfl ⟨rfl, ⟨⟨rfl, rfl, rfl, rfl, rfl, rfl, rfl⟩, L, J⟩⟩
end
