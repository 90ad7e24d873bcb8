/-! the relation within a run: code, scopes, closures, places, frames -/
/-- a frame of the component: code, scope, buffer, done, value, ending, keptPlace, keptValue -/
abbrev bl_XF : Type := Int32 × Int32 × Int32 × Int32 × Int64 × Int32 × Int32 × Int64
/-- a frame of the reference: token, phase, env, keptKind, keptValue, boundPlace, oldKind, oldValue, oldBuffer -/
abbrev bl_YF : Type := Int32 × Int32 × Int32 × Int32 × Int32 × Int32 × Int32 × Int32 × Int32
/-- a token that the draft may hold -/
def bl_tk (k v : Int32) : Prop :=
  (k = 0 ∨ k = 5 ∨ k = 7 ∨ k = 8 ∨ k = 9 ∨ k = 10 ∨ k = 11 ∨ k = 14 ∨ k = 15 ∨ k = 18)
  ∨ ((k = 1 ∨ k = 2 ∨ k = 3 ∨ k = 4 ∨ k = 17) ∧ ∃ j, j < 8 ∧ v = nI j)
  ∨ ((k = 6 ∨ k = 12 ∨ k = 13) ∧ ∃ j, j < 4 ∧ v = nI j)
  ∨ (k = 16 ∧ ∃ j, j < 3 ∧ v = nI j)
def bl_rg (kX : Nat → Int32) (r : Nat) : Nat → Nat := fun i => bl_ar (kX (48 * r + i))
/-- the code on both sides: region r of length L r (0: none) -/
def bl_Ko (L : Nat → Nat) (kX vX kY nY : Nat → Int32) : Prop :=
  (∀ r, r < 5 → L r ≤ 48) ∧ (∀ r, r < 5 → ∀ i, i < 48 → kY (bl_yb r + i) = kX (48 * r + i) ∧ nY (bl_yb r + i) = vX (48 * r + i))
  ∧ (∀ p, p < 240 → bl_tk (kX p) (vX p))
/-- region r is an expression, and the reference's table has its ends -/
def bl_Re (L : Nat → Nat) (kX en : Nat → Int32) (r : Nat) : Prop :=
  pf_V (bl_rg kX r) (L r) ∧ ∀ i, i < L r → ∃ m, pf_E (bl_rg kX r) i m ∧ en (bl_yb r + i) = nI (bl_yb r + m)
/-- all that stands still in a run -/
def bl_Cf (L : Nat → Nat) (dl : Int32) (kX vX df pr sp kY nY en ln : Nat → Int32) : Prop :=
  bl_Ko L kX vX kY nY ∧ (∀ r, r < 5 → 0 < L r → bl_Re L kX en r)
  ∧ (∀ k, k < 4 → (df k = 0 ∧ L (k + 1) = 0 ∧ ln k = 0) ∨ (df k = 1 ∧ 0 < L (k + 1) ∧ ln k = nI (L (k + 1))))
  ∧ (∀ k, k < 4 → ∃ j, j < 8 ∧ pr k = nI j) ∧ (dl = nI (L 0) ∧ ln 4 = nI (L 0))
theorem bl_pX {L : Nat → Nat} {kX vX kY nY : Nat → Int32} (K : bl_Ko L kX vX kY nY) {r t : Nat} (hr : r < 5) (ht : t < L r) : 48 * r + t < 240 := by
  have := K.1 r hr
  omega
theorem bl_pY {L : Nat → Nat} {kX vX kY nY : Nat → Int32} (K : bl_Ko L kX vX kY nY) {r t : Nat} (hr : r < 5) (ht : t < L r) : bl_yb r + t < 240 := by
  have := K.1 r hr
  exact bl_yb_lt hr (by omega)
theorem bl_kY {L : Nat → Nat} {kX vX kY nY : Nat → Int32} (K : bl_Ko L kX vX kY nY) {r t : Nat} (hr : r < 5) (ht : t < L r) : kY (bl_yb r + t) = kX (48 * r + t) ∧ nY (bl_yb r + t) = vX (48 * r + t) := by
  have := K.1 r hr
  exact K.2.1 r hr t (by omega)
theorem bl_p0 {L : Nat → Nat} {kX en : Nat → Int32} {r t : Nat} (R : bl_Re L kX en r) (ht : t < L r) (ha : 0 < bl_ar (kX (48 * r + t))) : t + 1 < L r :=
  pf_C_in (j := 0) R.1 ht ha rfl
theorem bl_p1 {L : Nat → Nat} {kX en : Nat → Int32} {r t : Nat} (R : bl_Re L kX en r) (ht : t < L r) (ha : 1 < bl_ar (kX (48 * r + t))) : ∃ m, m < L r ∧ pf_E (bl_rg kX r) (t + 1) m ∧ en (bl_yb r + (t + 1)) = nI (bl_yb r + m) := by
  have h0 := bl_p0 R ht (by omega)
  obtain ⟨m, hm, he⟩ := R.2 (t + 1) h0
  exact ⟨m, pf_C_in (j := 1) R.1 ht ha ⟨t + 1, rfl, hm⟩, hm, he⟩
theorem bl_p2 {L : Nat → Nat} {kX en : Nat → Int32} {r t : Nat} (R : bl_Re L kX en r) (ht : t < L r) (ha : 2 < bl_ar (kX (48 * r + t))) : ∃ m m', m < L r ∧ m' < L r ∧ pf_E (bl_rg kX r) (t + 1) m ∧ en (bl_yb r + (t + 1)) = nI (bl_yb r + m) ∧ pf_E (bl_rg kX r) m m' ∧ en (bl_yb r + m) = nI (bl_yb r + m') := by
  obtain ⟨m, hl, hm, he⟩ := bl_p1 R ht (by omega)
  obtain ⟨m', hm', he'⟩ := R.2 m hl
  exact ⟨m, m', hl, pf_C_in (j := 2) R.1 ht ha ⟨m, ⟨t + 1, rfl, hm⟩, hm'⟩, hm, he, hm', he'⟩
/-- the scopes below sc: none has a special symbol -/
def bl_So (sp ss so po : Nat → Int32) (sc : Nat) : Prop :=
  ∀ n, n < sc → bl_sc n (so n) ∧ po n = nI (32 + n) ∧ ∃ j, j < 8 ∧ ss n = nI j ∧ sp j = 0
/-- the closures below cl -/
def bl_Co (kX vX : Nat → Int32) (L : Nat → Nat) (cc cs cy cb : Nat → Int32) (sc cl : Nat) : Prop :=
  ∀ n, n < cl → bl_sc sc (cs n) ∧ ∃ r t, r < 5 ∧ t < L r ∧ cc n = nI (48 * r + t) ∧ kX (48 * r + t) = 4 ∧ cy n = vX (48 * r + t) ∧ cb n = nI (bl_yb r + (t + 1))
/-- the places of symbols, and those of scopes -/
def bl_Po (cl : Nat) (pl : Nat → Int64) (pk pv : Nat → Int32) : Prop := ∀ i, i < 32 → bl_vr cl (pl i) (pk i) (pv i)
def bl_Vo (cl sc : Nat) (sv : Nat → Int64) (pk pv : Nat → Int32) : Prop := ∀ n, n < sc → bl_vr cl (sv n) (pk (32 + n)) (pv (32 + n))
/-- a CATCH of tag t is among the first d frames -/
def bl_hc (kX vX : Nat → Int32) (x : Nat → bl_XF) (d t : Nat) : Prop := ∃ i p, i < d ∧ p < 240 ∧ (x i).1 = nI p ∧ kX p = 12 ∧ vX p = nI t
def bl_hy (kY nY : Nat → Int32) (y : Nat → bl_YF) (h t : Nat) : Prop := ∃ i p, i < h ∧ p < 240 ∧ (y i).1 = nI p ∧ kY p = 12 ∧ nY p = nI t
/-- how an expression ends when it gives nothing: an error's code, or a throw -/
def bl_er (cl : Nat) (hc : Nat → Prop) (e : Int32) (x : Int64) (tg cd k v : Int32) : Prop :=
  (∃ c, 1 ≤ c ∧ c ≤ 4 ∧ e = nI c ∧ tg = -1 ∧ cd = nI c) ∨ (∃ t, t < 4 ∧ e = nI (16 + t) ∧ tg = nI t ∧ cd = 0 ∧ hc t ∧ bl_vg cl x k v)
/-- what a frame has bound -/
def bl_bd (cl : Nat) (kp : Int32) (kv : Int64) (bp ok ov : Int32) : Prop :=
  (kp = -1 ∧ bp = -1) ∨ ∃ p, p < 32 ∧ kp = nI p ∧ bp = nI p ∧ bl_vr cl kv ok ov
/-- the phases of a frame that both sides have -/
def bl_ph (cl : Nat) (hc : Nat → Prop) (k : Int32) (e : Nat) (fv : Int64) (fe kp : Int32) (kv : Int64) (ph gk gv bp ok ov : Int32) : Prop :=
  (e = 0 ∧ ph = 0 ∧ (k = 2 ∨ k = 3 ∨ k = 5 ∨ k = 6 ∨ k = 7 ∨ k = 8 ∨ k = 9 ∨ k = 10 ∨ k = 11 ∨ k = 12 ∨ k = 13 ∨ k = 14 ∨ k = 15 ∨ k = 16 ∨ k = 17) ∧ kp = -1 ∧ bp = -1)
  ∨ (e = 1 ∧ ph = 1 ∧ (k = 3 ∨ k = 6) ∧ bl_bd cl kp kv bp ok ov)
  ∨ (e = 1 ∧ ph = 1 ∧ (k = 5 ∨ k = 9 ∨ k = 10 ∨ k = 11) ∧ kp = -1 ∧ bp = -1 ∧ bl_vg cl fv gk gv)
  ∨ (e = 2 ∧ ph = 2 ∧ k = 5 ∧ bl_bd cl kp kv bp ok ov)
  ∨ (e = 1 ∧ ph = 1 ∧ k = 15 ∧ kp = -1 ∧ bp = -1 ∧ fe = 0 ∧ bl_vg cl fv gk gv)
  ∨ (e = 1 ∧ ph = 2 ∧ k = 15 ∧ kp = -1 ∧ bp = -1 ∧ bl_er cl hc fe fv ok ov gk gv)
/-- the weight of a frame -/
def bl_wt (k : Int32) (e : Nat) : Nat := 8 - 2 * e + (if e = 0 ∨ (e = 1 ∧ k = 5) then 3001 else 0)
/-- a frame that both sides have -/
def bl_Lv (kX vX : Nat → Int32) (L : Nat → Nat) (sc cl : Nat) (hc : Nat → Prop) (f : bl_XF) (g : bl_YF) (w : Nat) (b : Int32) : Prop :=
  match f, g with
  | (fc, fs, fb, fd, fv, fe, kp, kv), (gt, ph, ge, gk, gv, bp, ok, ov, ob) =>
    ∃ r t e, r < 5 ∧ t < L r ∧ fc = nI (48 * r + t) ∧ gt = nI (bl_yb r + t) ∧ fs = ge ∧ bl_sc sc fs ∧ fb = ob ∧ fd = nI e
      ∧ w = bl_wt (kX (48 * r + t)) e ∧ b = (if kX (48 * r + t) = 16 then vX (48 * r + t) else fb)
      ∧ bl_ph cl hc (kX (48 * r + t)) e fv fe kp kv ph gk gv bp ok ov
/-- a frame that the component alone keeps: it will only be closed -/
def bl_In (kX : Nat → Int32) (L : Nat → Nat) (f : bl_XF) (b : Int32) : Prop :=
  match f with
  | (fc, _, fb, fd, _, _, kp, _) => ∃ r t, r < 5 ∧ t < L r ∧ fc = nI (48 * r + t) ∧ (kX (48 * r + t) = 7 ∨ kX (48 * r + t) = 8 ∨ kX (48 * r + t) = 14) ∧ fd = 1 ∧ kp = -1 ∧ fb = b
/-- the frames: d of the component, h of the reference; b the buffer inside, s their weight -/
def bl_St (kX vX : Nat → Int32) (L : Nat → Nat) (sc cl : Nat) (x : Nat → bl_XF) (y : Nat → bl_YF) : Nat → Nat → Int32 → Nat → Prop
  | 0, h, b, s => h = 0 ∧ b = 0 ∧ s = 0
  | d + 1, h, b, s => (∃ s', s = 6 + s' ∧ bl_In kX L (x d) b ∧ bl_St kX vX L sc cl x y d h b s')
      ∨ (∃ h' s' w, h = h' + 1 ∧ s = w + s' ∧ bl_Lv kX vX L sc cl (bl_hc kX vX x d) (x d) (y h') w b ∧ bl_St kX vX L sc cl x y d h' (x d).2.2.1 s')
theorem bl_bd_up {cl cl' : Nat} {kp : Int32} {kv : Int64} {bp ok ov : Int32} (hc : cl ≤ cl') (h : bl_bd cl kp kv bp ok ov) : bl_bd cl' kp kv bp ok ov := by
  rcases h with h | ⟨p, h1, h2, h3, h4⟩
  · exact Or.inl h
  · exact Or.inr ⟨p, h1, h2, h3, bl_vr_up hc h4⟩
theorem bl_er_up {cl cl' : Nat} {P Q : Nat → Prop} {e : Int32} {x : Int64} {tg cd k v : Int32} (hc : cl ≤ cl') (hp : ∀ t, P t → Q t) (h : bl_er cl P e x tg cd k v) : bl_er cl' Q e x tg cd k v := by
  rcases h with h | ⟨t, h1, h2, h3, h4, h5, h6⟩
  · exact Or.inl h
  · exact Or.inr ⟨t, h1, h2, h3, h4, hp t h5, bl_vg_up hc h6⟩
theorem bl_Lv_up {kX vX : Nat → Int32} {L : Nat → Nat} {sc sc' cl cl' : Nat} {P Q : Nat → Prop} {f : bl_XF} {g : bl_YF} {w : Nat} {b : Int32} (hs : sc ≤ sc') (hc : cl ≤ cl') (hp : ∀ t, P t → Q t) (h : bl_Lv kX vX L sc cl P f g w b) : bl_Lv kX vX L sc' cl' Q f g w b := by
  obtain ⟨fc, fs, fb, fd, fv, fe, kp, kv⟩ := f
  obtain ⟨gt, ph, ge, gk, gv, bp, ok, ov, ob⟩ := g
  obtain ⟨r, t, e, h1, h2, h3, h4, h5, h6, h7, h8, h9, h10, h11⟩ := h
  refine ⟨r, t, e, h1, h2, h3, h4, h5, bl_sc_up hs h6, h7, h8, h9, h10, ?_⟩
  rcases h11 with q | ⟨q1, q2, q3, q4⟩ | ⟨q1, q2, q3, q4, q5, q6⟩ | ⟨q1, q2, q3, q4⟩ | ⟨q1, q2, q3, q4, q5, q6, q7⟩ | ⟨q1, q2, q3, q4, q5, q6⟩
  · exact Or.inl q
  · exact Or.inr (Or.inl ⟨q1, q2, q3, bl_bd_up hc q4⟩)
  · exact Or.inr (Or.inr (Or.inl ⟨q1, q2, q3, q4, q5, bl_vg_up hc q6⟩))
  · exact Or.inr (Or.inr (Or.inr (Or.inl ⟨q1, q2, q3, bl_bd_up hc q4⟩)))
  · exact Or.inr (Or.inr (Or.inr (Or.inr (Or.inl ⟨q1, q2, q3, q4, q5, q6, bl_vg_up hc q7⟩))))
  · exact Or.inr (Or.inr (Or.inr (Or.inr (Or.inr ⟨q1, q2, q3, q4, q5, bl_er_up hc hp q6⟩))))
theorem bl_hc_cg {kX vX : Nat → Int32} {x x' : Nat → bl_XF} {d t : Nat} (hx : ∀ i, i < d → x' i = x i) (h : bl_hc kX vX x d t) : bl_hc kX vX x' d t := by
  obtain ⟨i, p, h1, h2, h3, h4⟩ := h
  exact ⟨i, p, h1, h2, by rw [hx i h1]; exact h3, h4⟩
theorem bl_hc_up {kX vX : Nat → Int32} {x : Nat → bl_XF} {d d' t : Nat} (hd : d ≤ d') (h : bl_hc kX vX x d t) : bl_hc kX vX x d' t := by
  obtain ⟨i, p, h1, h2⟩ := h
  exact ⟨i, p, by omega, h2⟩
/-- the frames below speak of the cells below alone -/
theorem bl_St_cg {kX vX : Nat → Int32} {L : Nat → Nat} {sc sc' cl cl' : Nat} {x x' : Nat → bl_XF} {y y' : Nat → bl_YF} (hs : sc ≤ sc') (hc : cl ≤ cl') : ∀ (d h : Nat) (b : Int32) (s : Nat), (∀ i, i < d → x' i = x i) → (∀ j, j < h → y' j = y j) → bl_St kX vX L sc cl x y d h b s → bl_St kX vX L sc' cl' x' y' d h b s := by
  intro d
  induction d with
  | zero => intro h b s _ _ H; exact H
  | succ d ih =>
    intro h b s hx hy H
    rcases H with ⟨s', e, hi, H⟩ | ⟨h', s', w, e1, e2, hl, H⟩
    · refine Or.inl ⟨s', e, ?_, ih h b s' (fun i hi => hx i (by omega)) hy H⟩
      rw [hx d (by omega)]; exact hi
    · refine Or.inr ⟨h', s', w, e1, e2, ?_, ?_⟩
      · rw [hx d (by omega), hy h' (by omega)]
        exact bl_Lv_up hs hc (fun t ht => bl_hc_cg (fun i hi => hx i (by omega)) ht) hl
      · rw [hx d (by omega)]
        exact ih h' _ s' (fun i hi => hx i (by omega)) (fun j hj => hy j (by omega)) H
theorem bl_St_le {kX vX : Nat → Int32} {L : Nat → Nat} {sc cl : Nat} {x : Nat → bl_XF} {y : Nat → bl_YF} : ∀ (d h : Nat) (b : Int32) (s : Nat), bl_St kX vX L sc cl x y d h b s → h ≤ d := by
  intro d
  induction d with
  | zero => intro h b s H; exact Nat.le_of_eq H.1
  | succ d ih =>
    intro h b s H
    rcases H with ⟨s', e, hi, H⟩ | ⟨h', s', w, e1, e2, hl, H⟩
    · have := ih _ _ _ H; omega
    · have := ih _ _ _ H; omega
theorem bl_tk16 {k v : Int32} (h : bl_tk k v) (hk : k = 16) : ∃ j, j < 3 ∧ v = nI j := by
  subst hk
  rcases h with h | h | h | h
  · exact absurd h (by decide)
  · exact absurd h.1 (by decide)
  · exact absurd h.1 (by decide)
  · exact h.2
theorem bl_tk4 {k v : Int32} (h : bl_tk k v) (hk : k = 6 ∨ k = 12 ∨ k = 13) : ∃ j, j < 4 ∧ v = nI j := by
  rcases h with h | h | h | h
  · rcases hk with rfl | rfl | rfl <;> exact absurd h (by decide)
  · rcases hk with rfl | rfl | rfl <;> exact absurd h.1 (by decide)
  · exact h.2
  · rcases hk with rfl | rfl | rfl <;> exact absurd h.1 (by decide)
theorem bl_tk8 {k v : Int32} (h : bl_tk k v) (hk : k = 1 ∨ k = 2 ∨ k = 3 ∨ k = 4 ∨ k = 17) : ∃ j, j < 8 ∧ v = nI j := by
  rcases h with h | h | h | h
  · rcases hk with rfl | rfl | rfl | rfl | rfl <;> exact absurd h (by decide)
  · exact h.2
  · rcases hk with rfl | rfl | rfl | rfl | rfl <;> exact absurd h.1 (by decide)
  · rcases hk with rfl | rfl | rfl | rfl | rfl <;> exact absurd h.1 (by decide)
theorem bl_St_b {L : Nat → Nat} {kX vX kY nY : Nat → Int32} (K : bl_Ko L kX vX kY nY) {sc cl : Nat} {x : Nat → bl_XF} {y : Nat → bl_YF} : ∀ (d h : Nat) (b : Int32) (s : Nat), bl_St kX vX L sc cl x y d h b s → ∃ j, j < 3 ∧ b = nI j := by
  intro d
  induction d with
  | zero => intro h b s H; exact ⟨0, by omega, H.2.1.trans nI_0.symm⟩
  | succ d ih =>
    intro h b s H
    rcases H with ⟨s', e, hi, H⟩ | ⟨h', s', w, e1, e2, hl, H⟩
    · exact ih _ _ _ H
    · have h0 := ih _ _ _ H
      generalize x d = f at hl h0
      generalize y h' = g at hl
      obtain ⟨fc, fs, fb, fd, fv, fe, kp, kv⟩ := f
      obtain ⟨gt, ph, ge, gk, gv, bp, ok, ov, ob⟩ := g
      obtain ⟨r, t, e, h1, h2, h3, h4, h5, h6, h7, h8, h9, h10, h11⟩ := hl
      rw [h10]
      split
      · exact bl_tk16 (K.2.2 _ (bl_pX K h1 h2)) (by assumption)
      · exact h0
/-- both sides see the same CATCHes -/
theorem bl_St_hc {L : Nat → Nat} {kX vX kY nY : Nat → Int32} (K : bl_Ko L kX vX kY nY) {sc cl : Nat} {x : Nat → bl_XF} {y : Nat → bl_YF} (t : Nat) : ∀ (d h : Nat) (b : Int32) (s : Nat), bl_St kX vX L sc cl x y d h b s → (bl_hc kX vX x d t ↔ bl_hy kY nY y h t) := by
  intro d
  induction d with
  | zero =>
    intro h b s H
    constructor
    · rintro ⟨i, p, hi, _⟩; omega
    · rintro ⟨i, p, hi, _⟩; have := H.1; omega
  | succ d ih =>
    intro h b s H
    rcases H with ⟨s', e, hi, H⟩ | ⟨h', s', w, e1, e2, hl, H⟩
    · rw [← ih _ _ _ H]
      constructor
      · rintro ⟨i, p, h1, h2, h3, h4, h5⟩
        by_cases c : i = d
        · subst c
          generalize x i = f at hi h3
          obtain ⟨fc, fs, fb, fd, fv, fe, kp, kv⟩ := f
          obtain ⟨r, t', a1, a2, a3, a4, _⟩ := hi
          have e3 : nI (48 * r + t') = nI p := a3.symm.trans h3
          have := bl_pX K a1 a2
          rw [nI_eq (by omega) (by omega)] at e3
          rw [e3, h4] at a4
          exact absurd a4 (by decide)
        · exact ⟨i, p, by omega, h2, h3, h4, h5⟩
      · exact bl_hc_up (by omega)
    · generalize hf : x d = f at hl H
      generalize hg : y h' = g at hl
      obtain ⟨fc, fs, fb, fd, fv, fe, kp, kv⟩ := f
      obtain ⟨gt, ph, ge, gk, gv, bp, ok, ov, ob⟩ := g
      obtain ⟨r, t', e, a1, a2, a3, a4, _⟩ := hl
      have q1 := bl_pX K a1 a2
      have q2 := bl_pY K a1 a2
      have q3 := bl_kY K a1 a2
      have I := ih _ _ _ H
      constructor
      · rintro ⟨i, p, h1, h2, h3, h4, h5⟩
        by_cases c : i = d
        · subst c
          rw [hf] at h3
          have e3 : nI (48 * r + t') = nI p := a3.symm.trans h3
          rw [nI_eq (by omega) (by omega)] at e3
          subst e3
          exact ⟨h', bl_yb r + t', by omega, q2, by rw [hg]; exact a4, q3.1.trans h4, q3.2.trans h5⟩
        · obtain ⟨j, p', j1, j2⟩ := I.mp ⟨i, p, by omega, h2, h3, h4, h5⟩
          exact ⟨j, p', by omega, j2⟩
      · rintro ⟨i, p, h1, h2, h3, h4, h5⟩
        by_cases c : i = h'
        · subst c
          rw [hg] at h3
          have e3 : nI (bl_yb r + t') = nI p := a4.symm.trans h3
          rw [nI_eq (by omega) (by omega)] at e3
          subst e3
          exact ⟨d, 48 * r + t', by omega, q1, by rw [hf]; exact a3, q3.1.symm.trans h4, q3.2.symm.trans h5⟩
        · exact bl_hc_up (by omega) (I.mpr ⟨i, p, by omega, h2, h3, h4, h5⟩)
theorem bl_Re_cg {L L' : Nat → Nat} {kX kX' en en' : Nat → Int32} {r : Nat} (hL : L' r = L r) (h48 : L r ≤ 48) (hk : ∀ i, i < L r → kX' (48 * r + i) = kX (48 * r + i)) (he : ∀ i, i < L r → en' (bl_yb r + i) = en (bl_yb r + i)) (R : bl_Re L kX en r) : bl_Re L' kX' en' r := by
  have hg : ∀ j, j < L r → bl_rg kX' r j = bl_rg kX r j := fun j hj => congrArg bl_ar (hk j hj)
  refine ⟨?_, fun i hi => ?_⟩
  · rw [hL]; exact pf_V_cg hg R.1
  · rw [hL] at hi
    obtain ⟨m, h1, h2⟩ := R.2 i hi
    exact ⟨m, pf_E_cg hg R.1 hi h1, (he i hi).trans h2⟩
/-! changes of scopes, closures, places -/
theorem bl_So_push {sp ss so po : Nat → Int32} {sc : Nat} (H : bl_So sp ss so po sc) {o : Int32} (ho : bl_sc sc o) {j : Nat} (hj : j < 8) (hs : sp j = 0) : bl_So sp (upd ss sc (nI j)) (upd so sc o) (upd po sc (nI (32 + sc))) (sc + 1) := by
  intro n hn
  by_cases c : n = sc
  · subst c
    rw [pk_us, pk_us, pk_us]
    exact ⟨ho, rfl, j, hj, rfl, hs⟩
  · rw [pk_un c, pk_un c, pk_un c]
    exact H n (by omega)
theorem bl_Co_up {kX vX : Nat → Int32} {L : Nat → Nat} {cc cs cy cb : Nat → Int32} {sc sc' cl : Nat} (hs : sc ≤ sc') (H : bl_Co kX vX L cc cs cy cb sc cl) : bl_Co kX vX L cc cs cy cb sc' cl :=
  fun n hn => ⟨bl_sc_up hs (H n hn).1, (H n hn).2⟩
theorem bl_Co_push {kX vX : Nat → Int32} {L : Nat → Nat} {cc cs cy cb : Nat → Int32} {sc cl : Nat} (H : bl_Co kX vX L cc cs cy cb sc cl) {o : Int32} (ho : bl_sc sc o) {r t : Nat} (hr : r < 5) (ht : t < L r) (hk : kX (48 * r + t) = 4) : bl_Co kX vX L (upd cc cl (nI (48 * r + t))) (upd cs cl o) (upd cy cl (vX (48 * r + t))) (upd cb cl (nI (bl_yb r + (t + 1)))) sc (cl + 1) := by
  intro n hn
  by_cases c : n = cl
  · subst c
    rw [pk_us, pk_us, pk_us, pk_us]
    exact ⟨ho, r, t, hr, ht, rfl, hk, rfl, rfl⟩
  · rw [pk_un c, pk_un c, pk_un c, pk_un c]
    exact H n (by omega)
theorem bl_Po_up {cl cl' : Nat} (hc : cl ≤ cl') {pl : Nat → Int64} {pk pv : Nat → Int32} (H : bl_Po cl pl pk pv) : bl_Po cl' pl pk pv := fun i hi => bl_vr_up hc (H i hi)
theorem bl_Vo_up {cl cl' sc : Nat} (hc : cl ≤ cl') {sv : Nat → Int64} {pk pv : Nat → Int32} (H : bl_Vo cl sc sv pk pv) : bl_Vo cl' sc sv pk pv := fun i hi => bl_vr_up hc (H i hi)
theorem bl_Po_set {cl : Nat} {pl : Nat → Int64} {pk pv : Nat → Int32} (H : bl_Po cl pl pk pv) (p : Nat) {x : Int64} {k v : Int32} (h : bl_vr cl x k v) : bl_Po cl (vp_updL pl p x) (upd pk p k) (upd pv p v) := by
  intro i hi
  by_cases c : i = p
  · subst c
    rw [pk_uLs, pk_us, pk_us]; exact h
  · rw [pk_uLn c, pk_un c, pk_un c]; exact H i hi
theorem bl_Vo_pl {cl sc : Nat} {sv : Nat → Int64} {pk pv : Nat → Int32} (H : bl_Vo cl sc sv pk pv) {p : Nat} (hp : p < 32) (k v : Int32) : bl_Vo cl sc sv (upd pk p k) (upd pv p v) := by
  intro n hn
  rw [pk_un (by omega), pk_un (by omega)]; exact H n hn
theorem bl_Po_sc {cl : Nat} {pl : Nat → Int64} {pk pv : Nat → Int32} (H : bl_Po cl pl pk pv) (n : Nat) (k v : Int32) : bl_Po cl pl (upd pk (32 + n) k) (upd pv (32 + n) v) := by
  intro i hi
  rw [pk_un (by omega), pk_un (by omega)]; exact H i hi
theorem bl_Vo_set {cl sc sc' : Nat} {sv : Nat → Int64} {pk pv : Nat → Int32} (H : bl_Vo cl sc sv pk pv) (n : Nat) (hs : ∀ i, i < sc' → i ≠ n → i < sc) {x : Int64} {k v : Int32} (h : bl_vr cl x k v) : bl_Vo cl sc' (vp_updL sv n x) (upd pk (32 + n) k) (upd pv (32 + n) v) := by
  intro i hi
  by_cases c : i = n
  · subst c
    rw [pk_uLs, pk_us, pk_us]; exact h
  · rw [pk_uLn c, pk_un (by omega), pk_un (by omega)]; exact H i (hs i hi c)
/-- a frame that the component alone keeps for a turn, while an ending goes on -/
def bl_Tr (kX : Nat → Int32) (L : Nat → Nat) (f : bl_XF) (b : Int32) : Prop :=
  match f with
  | (fc, _, fb, _, _, _, kp, _) => ∃ r t, r < 5 ∧ t < L r ∧ fc = nI (48 * r + t) ∧ (kX (48 * r + t) = 5 ∨ kX (48 * r + t) = 6 ∨ kX (48 * r + t) = 9 ∨ kX (48 * r + t) = 10 ∨ kX (48 * r + t) = 11 ∨ kX (48 * r + t) = 13) ∧ kp = -1 ∧ fb = b
def bl_Sq (kX vX : Nat → Int32) (L : Nat → Nat) (sc cl : Nat) (x : Nat → bl_XF) (y : Nat → bl_YF) (d h : Nat) (b : Int32) (s : Nat) : Prop :=
  bl_St kX vX L sc cl x y d h b s ∨ (∃ d' s', d = d' + 1 ∧ s = 1 + s' ∧ bl_Tr kX L (x d') b ∧ bl_St kX vX L sc cl x y d' h b s')
theorem bl_hc_dn {kX vX : Nat → Int32} {x : Nat → bl_XF} {d t : Nat} (h : bl_hc kX vX x (d + 1) t) (hn : ∀ p, p < 240 → (x d).1 = nI p → kX p = 12 → ¬ vX p = nI t) : bl_hc kX vX x d t := by
  obtain ⟨i, p, h1, h2, h3, h4, h5⟩ := h
  by_cases c : i = d
  · subst c
    exact absurd h5 (hn p h2 h3 h4)
  · exact ⟨i, p, by omega, h2, h3, h4, h5⟩
theorem bl_er_dn {cl : Nat} {kX vX : Nat → Int32} {x : Nat → bl_XF} {d : Nat} {e : Int32} {g : Int64} {tg cd k v : Int32} (h : bl_er cl (bl_hc kX vX x (d + 1)) e g tg cd k v) (hn : ∀ t p, t < 4 → e = nI (16 + t) → p < 240 → (x d).1 = nI p → kX p = 12 → ¬ vX p = nI t) : bl_er cl (bl_hc kX vX x d) e g tg cd k v := by
  rcases h with h | ⟨t, h1, h2, h3, h4, h5, h6⟩
  · exact Or.inl h
  · exact Or.inr ⟨t, h1, h2, h3, h4, bl_hc_dn h5 (fun p => hn t p h1 h2), h6⟩
abbrev bl_x (fc fs fb fd : Nat → Int32) (fv : Nat → Int64) (fe kp : Nat → Int32) (kv : Nat → Int64) : Nat → bl_XF := fun i => (fc i, fs i, fb i, fd i, fv i, fe i, kp i, kv i)
abbrev bl_y (gt ph ge gk gv bp ok ov ob : Nat → Int32) : Nat → bl_YF := fun i => (gt i, ph i, ge i, gk i, gv i, bp i, ok i, ov i, ob i)
