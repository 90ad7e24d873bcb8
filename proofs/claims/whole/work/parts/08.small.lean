/-! the relation between calls, and the small methods -/
def bl_ls (lr : Int64) (lc rk rv : Int32) : Prop := (rk = 0 ∧ lr = rv.toInt64 ∧ lc = 0) ∨ (rk = 1 ∧ lr = 10000000000 ∧ lc = 1) ∨ (rk = 2 ∧ lr = 10000000000 ∧ lc = 0)
/-- the functions that are defined -/
def bl_Fn (L : Nat → Nat) (df ln pr : Nat → Int32) : Prop := (∀ k, k < 4 → (df k = 0 ∧ L (k + 1) = 0 ∧ ln k = 0) ∨ (df k = 1 ∧ 0 < L (k + 1) ∧ ln k = nI (L (k + 1)))) ∧ (∀ k, k < 4 → ∃ j, j < 8 ∧ pr k = nI j)
def bl_Be (L : Nat → Nat) (dl lc rk rv : Int32) (lr : Int64) (kX vX df pr kY nY en ln pk pv : Nat → Int32) (pl : Nat → Int64) : Prop :=
  dl = nI (L 0) ∧ ln 4 = nI (L 0) ∧ bl_Ko L kX vX kY nY ∧ (∀ r, 0 < r → r < 5 → 0 < L r → bl_Re L kX en r) ∧ bl_Fn L df ln pr ∧ bl_Po 0 pl pk pv ∧ bl_ls lr lc rk rv
def i_Rel (_ : Nat) (u : SX) (v : SY) : Prop :=
  match u, v with
  | (dl, lr, lc, xst, xd, xcl, xsc, xm, xa, xs, xb, xg, xe, kX, vX, df, pr, sp, pl, th, fc, fs, fb, fd, fv, fe, kp, kv, cc, cs, ss, sv, so), (yen, ycl, yw, xb', xst', ym, ya, ys, yk, yv, yc, yt, rk, rv, kY, nY, en, ln, pr', sp', pk, pv, th', ss', po, so', cy, cb, cs', gt, ph, ge, gk, gv, bp, ok, ov, ob) => (pr' = pr ∧ sp' = sp ∧ th' = th ∧ ss' = ss ∧ so' = so ∧ cs' = cs ∧ xst' = xst) ∧ ∃ L : Nat → Nat, bl_Be L dl lc rk rv lr kX vX df pr kY nY en ln pk pv pl
theorem i_up {k : Nat} {u : SX} {v : SY} (h : i_Rel k u v) : i_Rel (k + 3) u v := h
theorem bl_k19 (k : Int32) : k < 0 ∨ 18 < k ∨ k = 0 ∨ k = 1 ∨ k = 2 ∨ k = 3 ∨ k = 4 ∨ k = 5 ∨ k = 6 ∨ k = 7 ∨ k = 8 ∨ k = 9 ∨ k = 10 ∨ k = 11 ∨ k = 12 ∨ k = 13 ∨ k = 14 ∨ k = 15 ∨ k = 16 ∨ k = 17 ∨ k = 18 := by
  rcases pk_ix k (n := 19) (by decide) with h | h | ⟨j, hj, rfl⟩
  · exact Or.inl h
  · refine Or.inr (Or.inl ?_)
    rw [Int32.lt_iff_toInt_lt]
    rw [Int32.le_iff_toInt_le, nI_toInt (by decide)] at h
    have : (18 : Int32).toInt = 18 := by decide
    omega
  · refine Or.inr (Or.inr ?_)
    have : ∀ j, j < 19 → nI j = 0 ∨ nI j = 1 ∨ nI j = 2 ∨ nI j = 3 ∨ nI j = 4 ∨ nI j = 5 ∨ nI j = 6 ∨ nI j = 7 ∨ nI j = 8 ∨ nI j = 9 ∨ nI j = 10 ∨ nI j = 11 ∨ nI j = 12 ∨ nI j = 13 ∨ nI j = 14 ∨ nI j = 15 ∨ nI j = 16 ∨ nI j = 17 ∨ nI j = 18 := by decide +kernel
    exact this j hj
theorem bl_tk_in {k v : Int32} (h : bl_tk k v) : ¬ k < 0 ∧ ¬ 18 < k := by
  rcases h with (h | h | h | h | h | h | h | h | h | h) | ⟨(h | h | h | h | h), _⟩ | ⟨(h | h | h), _⟩ | ⟨h, _⟩ <;> subst h <;> decide
/-- a value below a bound -/
theorem bl_bnd {A1 A0 : Prop} {v b : Int32} (B : Nat) (hb : b = nI B) (hB : B < 2 ^ 31) (h1 : (∃ j, j < B ∧ v = nI j) → A1) (h0 : ¬ (∃ j, j < B ∧ v = nI j) → A0) : (v < 0 → A0) ∧ (¬ v < 0 → ((b ≤ v → A0) ∧ (¬ b ≤ v → A1))) := by
  subst hb
  rcases pk_ix v (n := B) hB with h | h | ⟨j, hj, rfl⟩
  · refine br_t h (h0 ?_)
    rintro ⟨j, hj, rfl⟩
    exact nI_pos (by omega) h
  · refine br_c (fun n => h0 ?_) (fun n => br_t h (h0 ?_))
    · rintro ⟨j, hj, rfl⟩; exact nI_pos (by omega) n
    · rintro ⟨j, hj, rfl⟩; exact nI_ge (by omega) (by omega) h
  · exact br_f (nI_pos (by omega)) (br_f (nI_ge hj hB) (h1 ⟨j, hj, rfl⟩))
theorem bl_tk8i {k v : Int32} (hk : k = 1 ∨ k = 2 ∨ k = 3 ∨ k = 4 ∨ k = 17) : bl_tk k v ↔ ∃ j, j < 8 ∧ v = nI j := ⟨fun h => bl_tk8 h hk, fun h => Or.inr (Or.inl ⟨hk, h⟩)⟩
theorem bl_tk4i {k v : Int32} (hk : k = 6 ∨ k = 12 ∨ k = 13) : bl_tk k v ↔ ∃ j, j < 4 ∧ v = nI j := ⟨fun h => bl_tk4 h hk, fun h => Or.inr (Or.inr (Or.inl ⟨hk, h⟩))⟩
theorem bl_tk3i {k v : Int32} (hk : k = 16) : bl_tk k v ↔ ∃ j, j < 3 ∧ v = nI j := ⟨fun h => bl_tk16 h hk, fun h => Or.inr (Or.inr (Or.inr ⟨hk, h⟩))⟩
theorem bl_x_tok {post : Int32 → Prop} {k v : Int32} (h1 : bl_tk k v → post 1) (h0 : ¬ bl_tk k v → post 0) : wpX_isToken post k v := by
  rcases bl_k19 k with h | h | h
  · exact br_t h (h0 (fun z => (bl_tk_in z).1 h))
  · refine br_c (fun _ => h0 (fun z => (bl_tk_in z).2 h)) (fun _ => br_f ?_ (h0 (fun z => (bl_tk_in z).2 h)))
    exact Int32.not_le.mpr h
  · rcases h with h | h | h | h | h | h | h | h | h | h | h | h | h | h | h | h | h | h | h
    · subst h; simp [wpX_isToken, wpX_valueBound]; exact h1 (Or.inl (by decide))
    · subst h; rw [bl_tk8i (by decide)] at h1 h0; exact br_f (by decide) (br_t (by decide) (br_f (by decide) (br_f (by decide) (br_t rfl (br_f (by decide) (bl_bnd 8 rfl (by decide) h1 h0))))))
    · subst h; rw [bl_tk8i (by decide)] at h1 h0; exact br_f (by decide) (br_t (by decide) (br_f (by decide) (br_f (by decide) (br_f (by decide) (br_t rfl (br_f (by decide) (bl_bnd 8 rfl (by decide) h1 h0)))))))
    · subst h; rw [bl_tk8i (by decide)] at h1 h0; exact br_f (by decide) (br_t (by decide) (br_f (by decide) (br_f (by decide) (br_f (by decide) (br_f (by decide) (br_t rfl (br_f (by decide) (bl_bnd 8 rfl (by decide) h1 h0))))))))
    · subst h; rw [bl_tk8i (by decide)] at h1 h0; exact br_f (by decide) (br_t (by decide) (br_f (by decide) (br_f (by decide) (br_f (by decide) (br_f (by decide) (br_f (by decide) (br_t rfl (br_f (by decide) (bl_bnd 8 rfl (by decide) h1 h0)))))))))
    · subst h; simp [wpX_isToken, wpX_valueBound]; exact h1 (Or.inl (by decide))
    · subst h; rw [bl_tk4i (by decide)] at h1 h0; exact br_f (by decide) (br_t (by decide) (br_f (by decide) (br_f (by decide) (br_f (by decide) (br_f (by decide) (br_f (by decide) (br_f (by decide) (br_f (by decide) (br_t rfl (br_f (by decide) (bl_bnd 4 rfl (by decide) h1 h0)))))))))))
    · subst h; simp [wpX_isToken, wpX_valueBound]; exact h1 (Or.inl (by decide))
    · subst h; simp [wpX_isToken, wpX_valueBound]; exact h1 (Or.inl (by decide))
    · subst h; simp [wpX_isToken, wpX_valueBound]; exact h1 (Or.inl (by decide))
    · subst h; simp [wpX_isToken, wpX_valueBound]; exact h1 (Or.inl (by decide))
    · subst h; simp [wpX_isToken, wpX_valueBound]; exact h1 (Or.inl (by decide))
    · subst h; rw [bl_tk4i (by decide)] at h1 h0; exact br_f (by decide) (br_t (by decide) (br_f (by decide) (br_f (by decide) (br_f (by decide) (br_f (by decide) (br_f (by decide) (br_f (by decide) (br_f (by decide) (br_f (by decide) (br_f (by decide) (br_f (by decide) (br_f (by decide) (br_f (by decide) (br_f (by decide) (br_t rfl (br_f (by decide) (bl_bnd 4 rfl (by decide) h1 h0)))))))))))))))))
    · subst h; rw [bl_tk4i (by decide)] at h1 h0; exact br_f (by decide) (br_t (by decide) (br_f (by decide) (br_f (by decide) (br_f (by decide) (br_f (by decide) (br_f (by decide) (br_f (by decide) (br_f (by decide) (br_f (by decide) (br_f (by decide) (br_f (by decide) (br_f (by decide) (br_f (by decide) (br_f (by decide) (br_f (by decide) (br_t rfl (br_f (by decide) (bl_bnd 4 rfl (by decide) h1 h0))))))))))))))))))
    · subst h; simp [wpX_isToken, wpX_valueBound]; exact h1 (Or.inl (by decide))
    · subst h; simp [wpX_isToken, wpX_valueBound]; exact h1 (Or.inl (by decide))
    · subst h; rw [bl_tk3i (by decide)] at h1 h0; exact br_f (by decide) (br_t (by decide) (br_f (by decide) (br_f (by decide) (br_f (by decide) (br_f (by decide) (br_f (by decide) (br_f (by decide) (br_f (by decide) (br_f (by decide) (br_f (by decide) (br_f (by decide) (br_f (by decide) (br_f (by decide) (br_f (by decide) (br_f (by decide) (br_f (by decide) (br_f (by decide) (br_f (by decide) (br_t rfl (br_f (by decide) (bl_bnd 3 rfl (by decide) h1 h0)))))))))))))))))))))
    · subst h; rw [bl_tk8i (by decide)] at h1 h0; exact br_f (by decide) (br_t (by decide) (br_f (by decide) (br_f (by decide) (br_f (by decide) (br_f (by decide) (br_f (by decide) (br_f (by decide) (br_f (by decide) (br_f (by decide) (br_f (by decide) (br_f (by decide) (br_f (by decide) (br_f (by decide) (br_f (by decide) (br_f (by decide) (br_f (by decide) (br_f (by decide) (br_f (by decide) (br_f (by decide) (br_t rfl (br_f (by decide) (bl_bnd 8 rfl (by decide) h1 h0))))))))))))))))))))))
    · subst h; simp [wpX_isToken, wpX_valueBound]; exact h1 (Or.inl (by decide))
section
variable {dl lc xst xd xcl xsc xm xa xs xb xe yen ycl yw ym ya ys yk yv yc yt rk rv : Int32}
variable {lr xg : Int64}
variable {kX vX df pr sp th fc fs fb fd fe kp cc cs ss so kY nY en ln pk pv po cy cb gt ph ge gk gv bp ok ov ob : Nat → Int32}
variable {pl fv kv sv : Nat → Int64}
variable {yb : Int32} {L : Nat → Nat}
theorem bl_y54 {post : Int32 → SY → Prop} {k v z : Int32} (h : k < 0 ∨ 18 < k) (hp : post (-1) (yen, ycl, yw, yb, xst, ym, ya, ys, yk, yv, yc, yt, rk, rv, kY, nY, en, ln, pr, sp, pk, pv, th, ss, po, so, cy, cb, cs, gt, ph, ge, gk, gv, bp, ok, ov, ob)) : wY_token_54 post k v z yen ycl yw yb xst ym ya ys yk yv yc yt rk rv kY nY en ln pr sp pk pv th ss po so cy cb cs gt ph ge gk gv bp ok ov ob := by
  rcases h with h | h
  · exact br_t h (br_t rfl hp)
  · refine br_c (fun _ => br_t rfl hp) (fun _ => br_t ?_ (br_t rfl hp))
    rw [Int32.le_iff_toInt_le]
    rw [Int32.lt_iff_toInt_lt] at h
    have : (18 : Int32).toInt = 18 := by decide
    have : (19 : Int32).toInt = 19 := by decide
    omega
theorem bl_y54i {post : Int32 → SY → Prop} {k v z : Int32} (B : Nat) (hz : z = nI B) (hB : 0 < B) (hB2 : B < 2 ^ 31) (h1 : (∃ j, j < B ∧ v = nI j) → wY_token_76 post k v yen ycl yw yb xst ym ya ys yk yv yc yt rk rv kY nY en ln pr sp pk pv th ss po so cy cb cs gt ph ge gk gv bp ok ov ob) (h0 : ¬ (∃ j, j < B ∧ v = nI j) → post (-1) (yen, ycl, yw, yb, xst, ym, ya, ys, yk, yv, yc, yt, rk, rv, kY, nY, en, ln, pr, sp, pk, pv, th, ss, po, so, cy, cb, cs, gt, ph, ge, gk, gv, bp, ok, ov, ob)) (hk : ¬ k < 0) (hk2 : ¬ 19 ≤ k) : wY_token_54 post k v z yen ycl yw yb xst ym ya ys yk yv yc yt rk rv kY nY en ln pr sp pk pv th ss po so cy cb cs gt ph ge gk gv bp ok ov ob := by
  refine br_f hk (br_f hk2 (br_f (by decide) (br_f ?_ ?_)))
  · rw [hz]; exact nI_nle hB hB2
  · have := bl_bnd (A1 := wY_token_76 post k v yen ycl yw yb xst ym ya ys yk yv yc yt rk rv kY nY en ln pr sp pk pv th ss po so cy cb cs gt ph ge gk gv bp ok ov ob) (A0 := post (-1) (yen, ycl, yw, yb, xst, ym, ya, ys, yk, yv, yc, yt, rk, rv, kY, nY, en, ln, pr, sp, pk, pv, th, ss, po, so, cy, cb, cs, gt, ph, ge, gk, gv, bp, ok, ov, ob)) (v := v) B hz hB2 h1 h0
    exact ⟨fun a => br_t rfl (this.1 a), fun a => ⟨fun b => br_t rfl ((this.2 a).1 b), fun b => br_f (by decide) ((this.2 a).2 b)⟩⟩
theorem bl_y540 {post : Int32 → SY → Prop} {k v : Int32} (h1 : wY_token_76 post k v yen ycl yw yb xst ym ya ys yk yv yc yt rk rv kY nY en ln pr sp pk pv th ss po so cy cb cs gt ph ge gk gv bp ok ov ob) (hk : ¬ k < 0) (hk2 : ¬ 19 ≤ k) : wY_token_54 post k v 0 yen ycl yw yb xst ym ya ys yk yv yc yt rk rv kY nY en ln pr sp pk pv th ss po so cy cb cs gt ph ge gk gv bp ok ov ob :=
  br_f hk (br_f hk2 (br_f (by decide) (br_t (by decide) h1)))
theorem bl_y_tok {post : Int32 → SY → Prop} {k v : Int32} (h1 : bl_tk k v → wY_token_76 post k v yen ycl yw yb xst ym ya ys yk yv yc yt rk rv kY nY en ln pr sp pk pv th ss po so cy cb cs gt ph ge gk gv bp ok ov ob) (h0 : ¬ bl_tk k v → post (-1) (yen, ycl, yw, yb, xst, ym, ya, ys, yk, yv, yc, yt, rk, rv, kY, nY, en, ln, pr, sp, pk, pv, th, ss, po, so, cy, cb, cs, gt, ph, ge, gk, gv, bp, ok, ov, ob)) : wpY_token post (yen, ycl, yw, yb, xst, ym, ya, ys, yk, yv, yc, yt, rk, rv, kY, nY, en, ln, pr, sp, pk, pv, th, ss, po, so, cy, cb, cs, gt, ph, ge, gk, gv, bp, ok, ov, ob) k v := by
  rcases bl_k19 k with h | h | h
  · have q : ∀ z, wY_token_54 post k v z yen ycl yw yb xst ym ya ys yk yv yc yt rk rv kY nY en ln pr sp pk pv th ss po so cy cb cs gt ph ge gk gv bp ok ov ob := fun z => bl_y54 (Or.inl h) (h0 (fun z => (bl_tk_in z).1 h))
    have q0 : ((k = 17 → (wY_token_16 post k v yen ycl yw yb xst ym ya ys yk yv yc yt rk rv kY nY en ln pr sp pk pv th ss po so cy cb cs gt ph ge gk gv bp ok ov ob)) ∧ (¬ k = 17 → (((k = 6 → (wY_token_39 post k v yen ycl yw yb xst ym ya ys yk yv yc yt rk rv kY nY en ln pr sp pk pv th ss po so cy cb cs gt ph ge gk gv bp ok ov ob)) ∧ (¬ k = 6 → (((k = 12 → (wY_token_39 post k v yen ycl yw yb xst ym ya ys yk yv yc yt rk rv kY nY en ln pr sp pk pv th ss po so cy cb cs gt ph ge gk gv bp ok ov ob)) ∧ (¬ k = 12 → (((k = 13 → (wY_token_39 post k v yen ycl yw yb xst ym ya ys yk yv yc yt rk rv kY nY en ln pr sp pk pv th ss po so cy cb cs gt ph ge gk gv bp ok ov ob)) ∧ (¬ k = 13 → (((k = 16 → (wY_token_54 post k v 3 yen ycl yw yb xst ym ya ys yk yv yc yt rk rv kY nY en ln pr sp pk pv th ss po so cy cb cs gt ph ge gk gv bp ok ov ob)) ∧ (¬ k = 16 → (wY_token_54 post k v 0 yen ycl yw yb xst ym ya ys yk yv yc yt rk rv kY nY en ln pr sp pk pv th ss po so cy cb cs gt ph ge gk gv bp ok ov ob))))))))))))))) := br_c (fun _ => q 8) (fun _ => br_c (fun _ => q 4) (fun _ => br_c (fun _ => q 4) (fun _ => br_c (fun _ => q 4) (fun _ => br_c (fun _ => q 3) (fun _ => q 0)))))
    exact br_c (fun _ => br_t rfl q0) (fun _ => br_c (fun _ => br_t rfl q0) (fun _ => br_f (by decide) (q 8)))
  · have q : ∀ z, wY_token_54 post k v z yen ycl yw yb xst ym ya ys yk yv yc yt rk rv kY nY en ln pr sp pk pv th ss po so cy cb cs gt ph ge gk gv bp ok ov ob := fun z => bl_y54 (Or.inr h) (h0 (fun z => (bl_tk_in z).2 h))
    have q0 : ((k = 17 → (wY_token_16 post k v yen ycl yw yb xst ym ya ys yk yv yc yt rk rv kY nY en ln pr sp pk pv th ss po so cy cb cs gt ph ge gk gv bp ok ov ob)) ∧ (¬ k = 17 → (((k = 6 → (wY_token_39 post k v yen ycl yw yb xst ym ya ys yk yv yc yt rk rv kY nY en ln pr sp pk pv th ss po so cy cb cs gt ph ge gk gv bp ok ov ob)) ∧ (¬ k = 6 → (((k = 12 → (wY_token_39 post k v yen ycl yw yb xst ym ya ys yk yv yc yt rk rv kY nY en ln pr sp pk pv th ss po so cy cb cs gt ph ge gk gv bp ok ov ob)) ∧ (¬ k = 12 → (((k = 13 → (wY_token_39 post k v yen ycl yw yb xst ym ya ys yk yv yc yt rk rv kY nY en ln pr sp pk pv th ss po so cy cb cs gt ph ge gk gv bp ok ov ob)) ∧ (¬ k = 13 → (((k = 16 → (wY_token_54 post k v 3 yen ycl yw yb xst ym ya ys yk yv yc yt rk rv kY nY en ln pr sp pk pv th ss po so cy cb cs gt ph ge gk gv bp ok ov ob)) ∧ (¬ k = 16 → (wY_token_54 post k v 0 yen ycl yw yb xst ym ya ys yk yv yc yt rk rv kY nY en ln pr sp pk pv th ss po so cy cb cs gt ph ge gk gv bp ok ov ob))))))))))))))) := br_c (fun _ => q 8) (fun _ => br_c (fun _ => q 4) (fun _ => br_c (fun _ => q 4) (fun _ => br_c (fun _ => q 4) (fun _ => br_c (fun _ => q 3) (fun _ => q 0)))))
    exact br_c (fun _ => br_t rfl q0) (fun _ => br_c (fun _ => br_t rfl q0) (fun _ => br_f (by decide) (q 8)))
  · rcases h with h | h | h | h | h | h | h | h | h | h | h | h | h | h | h | h | h | h | h
    · subst h; exact br_t (by decide) (br_t rfl (br_f (by decide) (br_f (by decide) (br_f (by decide) (br_f (by decide) (br_f (by decide) (bl_y540 (h1 (Or.inl (by decide))) (by decide) (by decide))))))))
    · subst h; rw [bl_tk8i (by decide)] at h1 h0; exact br_f (by decide) (br_f (by decide) (br_f (by decide) (bl_y54i 8 rfl (by decide) (by decide) h1 h0 (by decide) (by decide))))
    · subst h; rw [bl_tk8i (by decide)] at h1 h0; exact br_f (by decide) (br_f (by decide) (br_f (by decide) (bl_y54i 8 rfl (by decide) (by decide) h1 h0 (by decide) (by decide))))
    · subst h; rw [bl_tk8i (by decide)] at h1 h0; exact br_f (by decide) (br_f (by decide) (br_f (by decide) (bl_y54i 8 rfl (by decide) (by decide) h1 h0 (by decide) (by decide))))
    · subst h; rw [bl_tk8i (by decide)] at h1 h0; exact br_f (by decide) (br_f (by decide) (br_f (by decide) (bl_y54i 8 rfl (by decide) (by decide) h1 h0 (by decide) (by decide))))
    · subst h; exact br_f (by decide) (br_t (by decide) (br_t rfl (br_f (by decide) (br_f (by decide) (br_f (by decide) (br_f (by decide) (br_f (by decide) (bl_y540 (h1 (Or.inl (by decide))) (by decide) (by decide)))))))))
    · subst h; rw [bl_tk4i (by decide)] at h1 h0; exact br_f (by decide) (br_t (by decide) (br_t rfl (br_f (by decide) (br_t rfl (bl_y54i 4 rfl (by decide) (by decide) h1 h0 (by decide) (by decide))))))
    · subst h; exact br_f (by decide) (br_t (by decide) (br_t rfl (br_f (by decide) (br_f (by decide) (br_f (by decide) (br_f (by decide) (br_f (by decide) (bl_y540 (h1 (Or.inl (by decide))) (by decide) (by decide)))))))))
    · subst h; exact br_f (by decide) (br_t (by decide) (br_t rfl (br_f (by decide) (br_f (by decide) (br_f (by decide) (br_f (by decide) (br_f (by decide) (bl_y540 (h1 (Or.inl (by decide))) (by decide) (by decide)))))))))
    · subst h; exact br_f (by decide) (br_t (by decide) (br_t rfl (br_f (by decide) (br_f (by decide) (br_f (by decide) (br_f (by decide) (br_f (by decide) (bl_y540 (h1 (Or.inl (by decide))) (by decide) (by decide)))))))))
    · subst h; exact br_f (by decide) (br_t (by decide) (br_t rfl (br_f (by decide) (br_f (by decide) (br_f (by decide) (br_f (by decide) (br_f (by decide) (bl_y540 (h1 (Or.inl (by decide))) (by decide) (by decide)))))))))
    · subst h; exact br_f (by decide) (br_t (by decide) (br_t rfl (br_f (by decide) (br_f (by decide) (br_f (by decide) (br_f (by decide) (br_f (by decide) (bl_y540 (h1 (Or.inl (by decide))) (by decide) (by decide)))))))))
    · subst h; rw [bl_tk4i (by decide)] at h1 h0; exact br_f (by decide) (br_t (by decide) (br_t rfl (br_f (by decide) (br_f (by decide) (br_t rfl (bl_y54i 4 rfl (by decide) (by decide) h1 h0 (by decide) (by decide)))))))
    · subst h; rw [bl_tk4i (by decide)] at h1 h0; exact br_f (by decide) (br_t (by decide) (br_t rfl (br_f (by decide) (br_f (by decide) (br_f (by decide) (br_t rfl (bl_y54i 4 rfl (by decide) (by decide) h1 h0 (by decide) (by decide))))))))
    · subst h; exact br_f (by decide) (br_t (by decide) (br_t rfl (br_f (by decide) (br_f (by decide) (br_f (by decide) (br_f (by decide) (br_f (by decide) (bl_y540 (h1 (Or.inl (by decide))) (by decide) (by decide)))))))))
    · subst h; exact br_f (by decide) (br_t (by decide) (br_t rfl (br_f (by decide) (br_f (by decide) (br_f (by decide) (br_f (by decide) (br_f (by decide) (bl_y540 (h1 (Or.inl (by decide))) (by decide) (by decide)))))))))
    · subst h; rw [bl_tk3i (by decide)] at h1 h0; exact br_f (by decide) (br_t (by decide) (br_t rfl (br_f (by decide) (br_f (by decide) (br_f (by decide) (br_f (by decide) (br_t rfl (bl_y54i 3 rfl (by decide) (by decide) h1 h0 (by decide) (by decide)))))))))
    · subst h; rw [bl_tk8i (by decide)] at h1 h0; exact br_f (by decide) (br_t (by decide) (br_t rfl (br_t rfl (bl_y54i 8 rfl (by decide) (by decide) h1 h0 (by decide) (by decide)))))
    · subst h; exact br_f (by decide) (br_t (by decide) (br_t rfl (br_f (by decide) (br_f (by decide) (br_f (by decide) (br_f (by decide) (br_f (by decide) (bl_y540 (h1 (Or.inl (by decide))) (by decide) (by decide)))))))))
end
theorem i_vc_wipe {k : Nat} {u : SX} {v : SY} (I : i_Rel k u v) (hk : k + 3 ≤ 1536) : wpX_wipe (fun r u' => wpY_wipe (fun r' v' => r' = r ∧ i_Rel (k + 3) u' v') v) u := by
  obtain ⟨dl, lr, lc, xst, xd, xcl, xsc, xm, xa, xs, xb, xg, xe, kX, vX, df, pr, sp, pl, th, fc, fs, fb, fd, fv, fe, kp, kv, cc, cs, ss, sv, so⟩ := u
  obtain ⟨yen, ycl, yw, xb', xst', ym, ya, ys, yk, yv, yc, yt, rk, rv, kY, nY, en, ln, pr', sp', pk, pv, th', ss', po, so', cy, cb, cs', gt, ph, ge, gk, gv, bp, ok, ov, ob⟩ := v
  obtain ⟨⟨rfl, rfl, rfl, rfl, rfl, rfl, rfl⟩, L, B⟩ := I
  obtain ⟨b1, b2, b3, b4, b5, b6, b7⟩ := B
  refine nm_e (nm_e ⟨b2.trans b1.symm, ⟨rfl, rfl, rfl, rfl, rfl, rfl, rfl⟩, fun r => if r = 0 then 0 else L r, rfl, rfl, ⟨fun r hr => ?_, b3.2⟩, fun r h0 hr hl => ?_, ⟨fun k hk => ?_, b5.2⟩, b6, b7⟩)
  · show (if r = 0 then 0 else L r) ≤ 48
    by_cases c : r = 0
    · rw [if_pos c]; omega
    · rw [if_neg c]; exact b3.1 r hr
  · have hl : 0 < (if r = 0 then 0 else L r) := hl
    rw [if_neg (by omega)] at hl
    refine bl_Re_cg ?_ (b3.1 r hr) (fun i _ => rfl) (fun i _ => rfl) (b4 r h0 hr hl)
    exact if_neg (by omega)
  · show (df k = 0 ∧ (if k + 1 = 0 then 0 else L (k + 1)) = 0 ∧ upd ln 4 0 k = 0) ∨ (df k = 1 ∧ 0 < (if k + 1 = 0 then 0 else L (k + 1)) ∧ upd ln 4 0 k = nI (if k + 1 = 0 then 0 else L (k + 1)))
    rw [if_neg (by omega), pk_un (by omega)]
    exact b5.1 k hk
theorem i_vc_result {k : Nat} {u : SX} {v : SY} (I : i_Rel k u v) (hk : k + 3 ≤ 1536) : wpX_result (fun r => wpY_result (fun r' => r' = r ∧ i_Rel (k + 3) u v) v) u := by
  obtain ⟨dl, lr, lc, xst, xd, xcl, xsc, xm, xa, xs, xb, xg, xe, kX, vX, df, pr, sp, pl, th, fc, fs, fb, fd, fv, fe, kp, kv, cc, cs, ss, sv, so⟩ := u
  obtain ⟨yen, ycl, yw, xb', xst', ym, ya, ys, yk, yv, yc, yt, rk, rv, kY, nY, en, ln, pr', sp', pk, pv, th', ss', po, so', cy, cb, cs', gt, ph, ge, gk, gv, bp, ok, ov, ob⟩ := v
  obtain ⟨⟨rfl, rfl, rfl, rfl, rfl, rfl, rfl⟩, L, B⟩ := I
  have J := B
  obtain ⟨b1, b2, b3, b4, b5, b6, b7⟩ := B
  rcases b7 with ⟨rfl, rfl, rfl⟩ | ⟨rfl, rfl, rfl⟩ | ⟨rfl, rfl, rfl⟩
  · exact br_t rfl ⟨rfl, ⟨rfl, rfl, rfl, rfl, rfl, rfl, rfl⟩, L, J⟩
  · exact br_f (by decide) ⟨rfl, ⟨rfl, rfl, rfl, rfl, rfl, rfl, rfl⟩, L, J⟩
  · exact br_f (by decide) ⟨rfl, ⟨rfl, rfl, rfl, rfl, rfl, rfl, rfl⟩, L, J⟩
theorem i_vc_closure {k : Nat} {u : SX} {v : SY} (I : i_Rel k u v) (hk : k + 3 ≤ 1536) : wpX_closure (fun r => wpY_closure (fun r' => r' = r ∧ i_Rel (k + 3) u v) v) u := by
  obtain ⟨dl, lr, lc, xst, xd, xcl, xsc, xm, xa, xs, xb, xg, xe, kX, vX, df, pr, sp, pl, th, fc, fs, fb, fd, fv, fe, kp, kv, cc, cs, ss, sv, so⟩ := u
  obtain ⟨yen, ycl, yw, xb', xst', ym, ya, ys, yk, yv, yc, yt, rk, rv, kY, nY, en, ln, pr', sp', pk, pv, th', ss', po, so', cy, cb, cs', gt, ph, ge, gk, gv, bp, ok, ov, ob⟩ := v
  obtain ⟨⟨rfl, rfl, rfl, rfl, rfl, rfl, rfl⟩, L, B⟩ := I
  have J := B
  obtain ⟨b1, b2, b3, b4, b5, b6, b7⟩ := B
  rcases b7 with ⟨rfl, rfl, rfl⟩ | ⟨rfl, rfl, rfl⟩ | ⟨rfl, rfl, rfl⟩
  · exact ⟨rfl, br_f (by decide) ⟨rfl, ⟨rfl, rfl, rfl, rfl, rfl, rfl, rfl⟩, L, J⟩⟩
  · exact ⟨rfl, br_t rfl ⟨rfl, ⟨rfl, rfl, rfl, rfl, rfl, rfl, rfl⟩, L, J⟩⟩
  · exact ⟨rfl, br_f (by decide) ⟨rfl, ⟨rfl, rfl, rfl, rfl, rfl, rfl, rfl⟩, L, J⟩⟩
theorem i_vc_steps {k : Nat} {u : SX} {v : SY} (I : i_Rel k u v) (hk : k + 3 ≤ 1536) : wpX_steps (fun r => wpY_steps (fun r' => r' = r ∧ i_Rel (k + 3) u v) v) u := by
  obtain ⟨dl, lr, lc, xst, xd, xcl, xsc, xm, xa, xs, xb, xg, xe, kX, vX, df, pr, sp, pl, th, fc, fs, fb, fd, fv, fe, kp, kv, cc, cs, ss, sv, so⟩ := u
  obtain ⟨yen, ycl, yw, xb', xst', ym, ya, ys, yk, yv, yc, yt, rk, rv, kY, nY, en, ln, pr', sp', pk, pv, th', ss', po, so', cy, cb, cs', gt, ph, ge, gk, gv, bp, ok, ov, ob⟩ := v
  obtain ⟨⟨rfl, rfl, rfl, rfl, rfl, rfl, rfl⟩, L, B⟩ := I
  exact ⟨rfl, ⟨rfl, rfl, rfl, rfl, rfl, rfl, rfl⟩, L, B⟩
