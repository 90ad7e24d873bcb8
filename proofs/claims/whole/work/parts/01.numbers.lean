/-! rows pasted from the kit (kit/rows/PURE-ROWS): stores, numbers, branches -/
theorem pk_us {f : Nat → Int32} {k : Nat} {x : Int32} : upd f k x k = x := if_pos rfl
theorem pk_un {f : Nat → Int32} {k j : Nat} {x : Int32} (h : j ≠ k) : upd f k x j = f j := if_neg h
theorem pk_uLs {f : Nat → Int64} {k : Nat} {x : Int64} : vp_updL f k x k = x := if_pos rfl
theorem pk_uLn {f : Nat → Int64} {k j : Nat} {x : Int64} (h : j ≠ k) : vp_updL f k x j = f j := if_neg h
theorem pk_sub {a b : Nat} (h : b ≤ a) : nI a - nI b = nI (a - b) := by
  obtain ⟨c, rfl⟩ : ∃ c, a = c + b := ⟨a - b, by omega⟩
  rw [← nI_add, Int32.add_sub_cancel, Nat.add_sub_cancel]
theorem pk_m1 (n : Nat) : nI (n + 1) + (-1) = nI n := by
  rw [← nI_1, Int32.add_assoc, show (1 : Int32) + (-1) = 0 from rfl, Int32.add_zero]
theorem pk_mul (a b : Nat) : nI a * nI b = nI (a * b) := (Int32.ofNat_mul a b).symm
theorem pk_ix (x : Int32) {n : Nat} (hn : n < 2 ^ 31) : x < 0 ∨ nI n ≤ x ∨ ∃ j : Nat, j < n ∧ x = nI j := by
  by_cases h : x < 0
  · exact Or.inl h
  · obtain ⟨j, hj, rfl⟩ := nI_of h
    by_cases h2 : j < n
    · exact Or.inr (Or.inr ⟨j, h2, rfl⟩)
    · exact Or.inr (Or.inl (nI_le (by omega) hj))
theorem pk_le {x y : Int32} {A B : Prop} (a b : Nat) (f : a ≤ b → A) (g : b < a → B) (hx : x = nI a := by rfl) (hy : y = nI b := by rfl) (ha : a < 2 ^ 31 := by omega) (hb : b < 2 ^ 31 := by omega) : (x ≤ y → A) ∧ (¬ x ≤ y → B) := by
  subst hx hy
  rw [nI_leI ha hb]
  exact ⟨f, fun z => g (by omega)⟩
theorem pk_lt {x y : Int32} {A B : Prop} (a b : Nat) (f : a < b → A) (g : b ≤ a → B) (hx : x = nI a := by rfl) (hy : y = nI b := by rfl) (ha : a < 2 ^ 31 := by omega) (hb : b < 2 ^ 31 := by omega) : (x < y → A) ∧ (¬ x < y → B) := by
  subst hx hy
  rw [nI_ltI ha hb]
  exact ⟨f, fun z => g (by omega)⟩
theorem pk_eq {x y : Int32} {A B : Prop} (a b : Nat) (f : a = b → A) (g : a ≠ b → B) (hx : x = nI a := by rfl) (hy : y = nI b := by rfl) (ha : a < 2 ^ 31 := by omega) (hb : b < 2 ^ 31 := by omega) : (x = y → A) ∧ (¬ x = y → B) := by
  subst hx hy
  rw [nI_eq ha hb]
  exact ⟨f, g⟩
theorem pk_in {x : Int32} (n N : Nat) (h : n < N) (hx : x = nI n := by rfl) (hN : N < 2 ^ 31 := by omega) : vp_in x N := by
  subst hx
  exact vp_in_nI h hN
theorem pk_cl {x : Int32} (n : Nat) (hx : x = nI n := by rfl) (h : n < 2 ^ 31 := by omega) : x.toNatClampNeg = n := by
  subst hx
  exact nI_clamp h
theorem pk_lT {n : Nat} (h : n < 2 ^ 63) : (lN n).toInt = (n : Int) := lg_ofNat_toInt h
theorem pk_lLT {a b : Nat} (ha : a < 2 ^ 63) (hb : b < 2 ^ 63) : lN a < lN b ↔ a < b := by
  rw [Int64.lt_iff_toInt_lt, pk_lT ha, pk_lT hb]; omega
theorem pk_lLE {a b : Nat} (ha : a < 2 ^ 63) (hb : b < 2 ^ 63) : lN a ≤ lN b ↔ a ≤ b := by
  rw [Int64.le_iff_toInt_le, pk_lT ha, pk_lT hb]; omega
theorem pk_lEQ {a b : Nat} (ha : a < 2 ^ 63) (hb : b < 2 ^ 63) : lN a = lN b ↔ a = b := by
  rw [← Int64.toInt_inj, pk_lT ha, pk_lT hb]; omega
theorem pk_least (P : Nat → Prop) (h : ∃ k, P k) : ∃ k, P k ∧ ∀ j, j < k → ¬ P j := by
  obtain ⟨k, hk⟩ := h
  induction k using Nat.strongRecOn with
  | ind k ih =>
    by_cases e : ∃ j, j < k ∧ P j
    · obtain ⟨j, hj, pj⟩ := e
      exact ih j hj pj
    · exact ⟨k, hk, fun j hj pj => e ⟨j, hj, pj⟩⟩
/-! numbers of this claim: values of the component (one long) against values of the reference (kind and int) -/
/-- a value: an int, closure n below cl, or void -/
def bl_vr (cl : Nat) (x : Int64) (k v : Int32) : Prop :=
  (k = 0 ∧ x = v.toInt64) ∨ (k = 1 ∧ ∃ n, n < cl ∧ v = nI n ∧ x = 20000000000 + lN n) ∨ (k = 2 ∧ x = 10000000000)
theorem bl_vr_up {cl cl' : Nat} {x : Int64} {k v : Int32} (hc : cl ≤ cl') (h : bl_vr cl x k v) : bl_vr cl' x k v := by
  rcases h with h | ⟨hk, n, hn, h⟩ | h
  · exact Or.inl h
  · exact Or.inr (Or.inl ⟨hk, n, by omega, h⟩)
  · exact Or.inr (Or.inr h)
theorem bl_c2 : (20000000000 : Int64).toInt = 20000000000 := by decide
theorem bl_c1 : (10000000000 : Int64).toInt = 10000000000 := by decide
theorem bl_int_lo (v : Int32) : -2147483648 ≤ v.toInt := by
  have := Int32.le_toInt v; simpa using this
theorem bl_int_hi (v : Int32) : v.toInt < 2147483648 := by
  have := Int32.toInt_lt v; simpa using this
theorem bl_cn {n : Nat} (h : n < 1000) : (20000000000 + lN n).toInt = 20000000000 + (n : Int) := by
  rw [Int64.toInt_add, bl_c2, lN_toInt (by omega)]
  exact Int.bmod_eq_of_le (by omega) (by omega)
theorem bl_int_nc (v : Int32) : ¬ (20000000000 : Int64) ≤ v.toInt64 := by
  rw [Int64.le_iff_toInt_le, bl_c2, Int32.toInt_toInt64]
  have := bl_int_hi v
  omega
theorem bl_int_nn (v : Int32) : ¬ v.toInt64 = (10000000000 : Int64) := by
  intro h
  have h := congrArg Int64.toInt h
  rw [bl_c1, Int32.toInt_toInt64] at h
  have := bl_int_hi v
  omega
theorem bl_cl_c {n : Nat} (h : n < 1000) : (20000000000 : Int64) ≤ 20000000000 + lN n := by
  rw [Int64.le_iff_toInt_le, bl_c2, bl_cn h]
  omega
theorem bl_cl_nn {n : Nat} (h : n < 1000) : ¬ 20000000000 + lN n = (10000000000 : Int64) := by
  intro h'
  have h' := congrArg Int64.toInt h'
  rw [bl_c1, bl_cn h] at h'
  omega
theorem bl_cl_n0 {n : Nat} (h : n < 1000) : ¬ 20000000000 + lN n = (0 : Int64) := by
  intro h'
  have h' := congrArg Int64.toInt h'
  rw [bl_cn h] at h'
  have : (0 : Int64).toInt = 0 := by decide
  omega
theorem bl_vd_nc : ¬ (20000000000 : Int64) ≤ 10000000000 := by decide
theorem bl_cl_sub (n : Nat) : (20000000000 + lN n - 20000000000).toInt32 = nI n := by
  rw [Int64.toInt32_sub, Int64.toInt32_add, lN_i]
  grind
theorem bl_int_0 (v : Int32) : v.toInt64 = 0 ↔ v = 0 := by
  constructor
  · intro h
    have h := congrArg Int64.toInt32 h
    rw [Int32.toInt32_toInt64] at h
    exact h
  · rintro rfl
    rfl
/-- closure or not, seen on both sides -/
theorem bl_vr_c {cl : Nat} {x : Int64} {k v : Int32} (hcl : cl < 1000) (h : bl_vr cl x k v) : ((20000000000 : Int64) ≤ x ↔ k = 1) := by
  rcases h with ⟨rfl, rfl⟩ | ⟨rfl, n, hn, rfl, rfl⟩ | ⟨rfl, rfl⟩
  · exact ⟨fun h => absurd h (bl_int_nc v), fun h => absurd h (by decide)⟩
  · exact ⟨fun _ => rfl, fun _ => bl_cl_c (by omega)⟩
  · exact ⟨fun h => absurd h bl_vd_nc, fun h => absurd h (by decide)⟩
theorem bl_vr_n {cl : Nat} {x : Int64} {k v : Int32} (hcl : cl < 1000) (h : bl_vr cl x k v) : (x = 10000000000 ↔ k = 2) := by
  rcases h with ⟨rfl, rfl⟩ | ⟨rfl, n, hn, rfl, rfl⟩ | ⟨rfl, rfl⟩
  · exact ⟨fun h => absurd h (bl_int_nn v), fun h => absurd h (by decide)⟩
  · exact ⟨fun h => absurd h (bl_cl_nn (by omega)), fun h => absurd h (by decide)⟩
  · exact ⟨fun _ => rfl, fun _ => rfl⟩
/-- what a symbol's value or what is given may be where it is not void -/
def bl_vg (cl : Nat) (x : Int64) (k v : Int32) : Prop :=
  (k = 0 ∧ x = v.toInt64) ∨ (k = 1 ∧ ∃ n, n < cl ∧ v = nI n ∧ x = 20000000000 + lN n)
theorem bl_vg_up {cl cl' : Nat} {x : Int64} {k v : Int32} (hc : cl ≤ cl') (h : bl_vg cl x k v) : bl_vg cl' x k v := by
  rcases h with h | ⟨hk, n, hn, h⟩
  · exact Or.inl h
  · exact Or.inr ⟨hk, n, by omega, h⟩
theorem bl_vg_r {cl : Nat} {x : Int64} {k v : Int32} (h : bl_vg cl x k v) : bl_vr cl x k v := by
  rcases h with h | h
  · exact Or.inl h
  · exact Or.inr (Or.inl h)
theorem bl_vr_g {cl : Nat} {x : Int64} {k v : Int32} (h : bl_vr cl x k v) (hk : ¬ k = 2) : bl_vg cl x k v := by
  rcases h with h | h | h
  · exact Or.inl h
  · exact Or.inr h
  · exact absurd h.1 hk
/-- the test of IF -/
theorem bl_vg_0 {cl : Nat} {x : Int64} {k v : Int32} (hcl : cl < 1000) (h : bl_vg cl x k v) : (x = 0 ↔ k = 0 ∧ v = 0) := by
  rcases h with ⟨rfl, rfl⟩ | ⟨rfl, n, hn, rfl, rfl⟩
  · rw [bl_int_0]
    exact ⟨fun h => ⟨rfl, h⟩, fun h => h.2⟩
  · exact ⟨fun h => absurd h (bl_cl_n0 (by omega)), fun h => absurd h.1 (by decide)⟩
/-- a scope below n, or none -/
def bl_sc (n : Nat) (x : Int32) : Prop := x = -1 ∨ ∃ j, j < n ∧ x = nI j
theorem bl_sc_up {n n' : Nat} {x : Int32} (hn : n ≤ n') (h : bl_sc n x) : bl_sc n' x := by
  rcases h with h | ⟨j, hj, h⟩
  · exact Or.inl h
  · exact Or.inr ⟨j, by omega, h⟩
theorem bl_fill (f : Nat → Int32) (c : Int32) (j : Nat) : upd (fun i => if i < j then c else f i) j c = fun i => if i < j + 1 then c else f i := by
  funext i
  unfold upd
  by_cases e : i = j
  · rw [if_pos e, if_pos (by omega)]
  · rw [if_neg e]
    dsimp only
    by_cases l : i < j
    · rw [if_pos l, if_pos (by omega)]
    · rw [if_neg l, if_neg (by omega)]
theorem bl_fillL (f : Nat → Int64) (c : Int64) (j : Nat) : vp_updL (fun i => if i < j then c else f i) j c = fun i => if i < j + 1 then c else f i := by
  funext i
  unfold vp_updL
  by_cases e : i = j
  · rw [if_pos e, if_pos (by omega)]
  · rw [if_neg e]
    dsimp only
    by_cases l : i < j
    · rw [if_pos l, if_pos (by omega)]
    · rw [if_neg l, if_neg (by omega)]
theorem bl_fill0 {α : Type} (f : Nat → α) (c : α) : (fun i => if i < 0 then c else f i) = f := by
  funext i
  rw [if_neg (by omega)]
theorem bl_nb0 : vp_nar .boolean 0 = 0 := by decide
theorem bl_nb1 : vp_nar .boolean 1 = 1 := by decide
