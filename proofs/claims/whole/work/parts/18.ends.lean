/-! is the draft an expression; the table of ends; what closes a run -/
section
variable {dl lc xst xd xcl xsc xm xa xs xb xe yen ycl yw ym ya ys yk yv yc yt rk rv : Int32}
variable {lr xg : Int64}
variable {kX vX df pr sp th fc fs fb fd fe kp cc cs ss so kY nY en ln pk pv po cy cb gt ph ge gk gv bp ok ov ob : Nat → Int32}
variable {pl fv kv sv : Nat → Int64}
variable {L : Nat → Nat} {r n cl : Nat} {yb : Int32}
theorem bl_isx (hk : ∀ p, p < 240 → bl_tk (kX p) (vX p)) (hy : ∀ i, i < 48 → kY (192 + i) = kX i) (hn : n ≤ 48) (hln : ln 4 = nI n) : ∃ b : Int32, ((b = 1 ∧ pf_V (bl_rg kX 0) n) ∨ b = 0) ∧ (∀ post : Int32 → Prop, post b → wpX_draftIsExpression post ((nI n), lr, lc, xst, xd, xcl, xsc, xm, xa, xs, xb, xg, xe, kX, vX, df, pr, sp, pl, th, fc, fs, fb, fd, fv, fe, kp, kv, cc, cs, ss, sv, so)) ∧ (∀ post : Int32 → Prop, post b → wpY_isExpression post (yen, ycl, yw, yb, xst, ym, ya, ys, yk, yv, yc, yt, rk, rv, kY, nY, en, ln, pr, sp, pk, pv, th, ss, po, so, cy, cb, cs, gt, ph, ge, gk, gv, bp, ok, ov, ob)) := by
  have e192 : (192 : Int32) + nI n = nI (192 + n) := nI_add 192 n
  have key : ∀ k l, l + k = n → (∀ i, i < l → 0 < pf_D (bl_rg kX 0) i) → ∃ b : Int32, ((b = 1 ∧ pf_V (bl_rg kX 0) n) ∨ b = 0) ∧ (∀ (post : Int32 → Prop) f, k < f → post b → wX_draftIsExpression_4 post (nI n) lr lc xst xd xcl xsc xm xa xs xb xg xe kX vX df pr sp pl th fc fs fb fd fv fe kp kv cc cs ss sv so f (nI (pf_D (bl_rg kX 0) l)) (nI l)) ∧ (∀ (post : Int32 → Prop) f, k < f → post b → wY_isExpression_6 post yen ycl yw yb xst ym ya ys yk yv yc yt rk rv kY nY en ln pr sp pk pv th ss po so cy cb cs gt ph ge gk gv bp ok ov ob f (nI (pf_D (bl_rg kX 0) l)) (nI (192 + l))) := by
    intro k
    induction k with
    | zero =>
      intro l hl hD
      have hl : l = n := by omega
      subst hl
      have le1 : nI l ≤ nI l := nI_le (Nat.le_refl _) (by omega)
      have le2 : 192 + ln 4 ≤ nI (192 + l) := by rw [hln, e192]; exact nI_le (Nat.le_refl _) (by omega)
      have b97 := pf_D_le (g := bl_rg kX 0) (fun i => bl_ar_le _) l
      by_cases c : pf_D (bl_rg kX 0) l = 0
      · refine ⟨1, Or.inl ⟨rfl, hD, c⟩, fun post f hf hp => ?_, fun post f hf hp => ?_⟩
        · obtain ⟨f, rfl⟩ : ∃ f', f = f' + 1 := ⟨f - 1, by omega⟩
          rw [c]; exact br_t le1 (br_t rfl hp)
        · obtain ⟨f, rfl⟩ : ∃ f', f = f' + 1 := ⟨f - 1, by omega⟩
          rw [c]; exact br_t le2 (br_t rfl hp)
      · have ne : ¬ nI (pf_D (bl_rg kX 0) l) = 0 := nI_ne0 (by omega) (by omega)
        refine ⟨0, Or.inr rfl, fun post f hf hp => ?_, fun post f hf hp => ?_⟩
        · obtain ⟨f, rfl⟩ : ∃ f', f = f' + 1 := ⟨f - 1, by omega⟩
          exact br_t le1 (br_f ne hp)
        · obtain ⟨f, rfl⟩ : ∃ f', f = f' + 1 := ⟨f - 1, by omega⟩
          exact br_t le2 (br_f ne hp)
    | succ k ih =>
      intro l hl hD
      have le1 : ¬ nI n ≤ nI l := nI_ge (by omega) (by omega)
      have le2 : ¬ 192 + ln 4 ≤ nI (192 + l) := by rw [hln, e192]; exact nI_ge (by omega) (by omega)
      have b97 := pf_D_le (g := bl_rg kX 0) (fun i => bl_ar_le _) l
      by_cases c : pf_D (bl_rg kX 0) l = 0
      · refine ⟨0, Or.inr rfl, fun post f hf hp => ?_, fun post f hf hp => ?_⟩
        · obtain ⟨f, rfl⟩ : ∃ f', f = f' + 1 := ⟨f - 1, by omega⟩
          rw [c]; exact br_f le1 (br_t rfl hp)
        · obtain ⟨f, rfl⟩ : ∃ f', f = f' + 1 := ⟨f - 1, by omega⟩
          rw [c]; exact br_f le2 (br_t rfl hp)
      · have ne : ¬ nI (pf_D (bl_rg kX 0) l) = 0 := nI_ne0 (by omega) (by omega)
        have e0 : 48 * 0 + l = l := by omega
        have eD : pf_D (bl_rg kX 0) (l + 1) = pf_D (bl_rg kX 0) l + bl_ar (kX l) - 1 := by
          show pf_D (bl_rg kX 0) l + bl_ar (kX (48 * 0 + l)) - 1 = _
          rw [e0]
        obtain ⟨b, hb, hX, hY⟩ := ih (l + 1) (by omega) (fun i hi => by
          by_cases z : i = l
          · subst z; omega
          · exact hD i (by omega))
        rw [eD] at hX hY
        refine ⟨b, hb, fun post f hf hp => ?_, fun post f hf hp => ?_⟩
        · obtain ⟨f, rfl⟩ : ∃ f', f = f' + 1 := ⟨f - 1, by omega⟩
          refine br_f le1 (br_f ne ⟨vp_in_nI (by omega) (by decide), ?_⟩)
          rw [nI_clamp (by omega)]
          exact bl_x_pc (hk l (by omega)) (nm_r (bl_due (by omega)) (nm_r (nI_1 l) (hX post f (by omega) hp)))
        · obtain ⟨f, rfl⟩ : ∃ f', f = f' + 1 := ⟨f - 1, by omega⟩
          refine br_f le2 (br_f ne ⟨vp_in_nI (by omega) (by decide), ?_⟩)
          rw [nI_clamp (by omega), hy l (by omega)]
          exact bl_y_pc (hk l (by omega)) (nm_r (bl_due (by omega)) (nm_r (nI_1 _) (hY post f (by omega) hp)))
  obtain ⟨b, hb, hX, hY⟩ := key n 0 (by omega) (fun i hi => by omega)
  exact ⟨b, hb, fun post hp => ⟨n + 1, hX post (n + 1) (by omega) hp⟩, fun post hp => ⟨n + 1, hY post (n + 1) (by omega) hp⟩⟩
theorem bl_predlt {a : Nat} (ha : a < 1000) : nI a + (-1) < nI a := by
  cases a with
  | zero => decide
  | succ a => rw [pk_m1]; exact nI_lt (by omega) (by omega)
theorem bl_fe_in (hk : ∀ p, p < 240 → bl_tk (kX p) (vX p)) (hr : r < 5) (hn : n ≤ 48) (hy : ∀ i, i < n → kY (bl_yb r + i) = kX (48 * r + i)) (V : pf_V (bl_rg kX r) n) {l m' : Nat} (hl : l < n) (E : pf_E (bl_rg kX r) l m') (T : ∀ i, l < i → i < n → ∃ m, pf_E (bl_rg kX r) i m ∧ en (bl_yb r + i) = nI (bl_yb r + m)) {post : SY → Prop} {J : Int32 → (Nat → Int32) → (Nat → Int32) → (Nat → Int32) → (Nat → Int32) → (Nat → Int32) → (Nat → Int32) → (Nat → Int32) → (Nat → Int32) → (Nat → Int32) → (Nat → Int32) → (Nat → Int32) → (Nat → Int32) → (Nat → Int32) → (Nat → Int32) → (Nat → Int32) → (Nat → Int32) → (Nat → Int32) → (Nat → Int32) → (Nat → Int32) → (Nat → Int32) → (Nat → Int32) → (Nat → Int32) → (Nat → Int32) → (Nat → Int32) → Prop} (HJ : J (nI (bl_yb r + l) + (-1)) kY nY (upd en (bl_yb r + l) (nI (bl_yb r + m'))) ln pr sp pk pv th ss po so cy cb cs gt ph ge gk gv bp ok ov ob) : ∀ k j m, j + k = bl_rg kX r l → pf_C (bl_rg kX r) l j m → ∀ f, k < f → wY_findEnds_19 post J (nI (bl_yb r)) (nI (bl_yb r + l)) yen ycl yw yb xst ym ya ys yk yv yc yt rk rv kY nY en ln pr sp pk pv th ss po so cy cb cs gt ph ge gk gv bp ok ov ob f (nI (bl_yb r + m)) (nI j) := by
  have q240 := bl_yb_lt (r := r) (i := l) hr (by omega)
  have i1 : vp_in (nI (bl_yb r + l)) 240 := vp_in_nI q240 (by decide)
  have c1 : (nI (bl_yb r + l)).toNatClampNeg = bl_yb r + l := nI_clamp (by omega)
  have tk := hk (48 * r + l) (by omega)
  have a3 : bl_ar (kX (48 * r + l)) ≤ 3 := bl_ar_le _
  intro k
  induction k with
  | zero =>
    intro j m hj hC f hf
    obtain ⟨f, rfl⟩ : ∃ f', f = f' + 1 := ⟨f - 1, by omega⟩
    have hj : j = bl_rg kX r l := by omega
    subst hj
    have em := pf_uq (pf_C_end V hl hC) E
    subst em
    refine ⟨i1, ?_⟩
    rw [c1, hy l hl]
    exact bl_y_pc tk (br_t (nI_le (Nat.le_refl _) (Nat.lt_of_le_of_lt a3 (by decide))) ⟨i1, nm_e (nm_e HJ)⟩)
  | succ k ih =>
    intro j m hj hC f hf
    obtain ⟨f, rfl⟩ : ∃ f', f = f' + 1 := ⟨f - 1, by omega⟩
    have hjg : j < bl_rg kX r l := by omega
    have hm := pf_C_in V hl hjg hC
    obtain ⟨hlm, _⟩ := pf_C_inv V hl j m (by omega) hC
    obtain ⟨m2, E2, he⟩ := T m hlm hm
    have m240 := bl_yb_lt (r := r) (i := m) hr (by omega)
    refine ⟨i1, ?_⟩
    rw [c1, hy l hl]
    refine bl_y_pc tk (br_f (nI_ge hjg (Nat.lt_of_le_of_lt a3 (by decide))) ⟨vp_in_nI m240 (by decide), nm_r (e' := nI (bl_yb r + m2)) ?_ (nm_r (nI_1 j) (ih (j + 1) m2 (by omega) ⟨m, hC, E2⟩ f (by omega)))⟩)
    rw [nI_clamp (by omega), he]
theorem bl_fe_out (hk : ∀ p, p < 240 → bl_tk (kX p) (vX p)) (hr : r < 5) (hn : n ≤ 48) (hy : ∀ i, i < n → kY (bl_yb r + i) = kX (48 * r + i)) (V : pf_V (bl_rg kX r) n) : ∀ (l : Nat) (en : Nat → Int32), l ≤ n → (∀ i, l ≤ i → i < n → ∃ m, pf_E (bl_rg kX r) i m ∧ en (bl_yb r + i) = nI (bl_yb r + m)) → ∃ en' : Nat → Int32, (∀ i, i < n → ∃ m, pf_E (bl_rg kX r) i m ∧ en' (bl_yb r + i) = nI (bl_yb r + m)) ∧ (∀ p, (∀ i, i < n → p ≠ bl_yb r + i) → en' p = en p) ∧ ∀ (post : SY → Prop) f, l < f → post (yen, ycl, yw, yb, xst, ym, ya, ys, yk, yv, yc, yt, rk, rv, kY, nY, en', ln, pr, sp, pk, pv, th, ss, po, so, cy, cb, cs, gt, ph, ge, gk, gv, bp, ok, ov, ob) → wY_findEnds_6 post (nI (bl_yb r)) yen ycl yw yb xst ym ya ys yk yv yc yt rk rv f (nI (bl_yb r + l) + (-1)) kY nY en ln pr sp pk pv th ss po so cy cb cs gt ph ge gk gv bp ok ov ob := by
  have y240 := bl_yb_le (r := r) (i := 48) hr (by omega)
  intro l
  induction l with
  | zero =>
    intro en _ T
    refine ⟨en, fun i hi => T i (by omega) hi, fun _ _ => rfl, fun post f hf hp => ?_⟩
    obtain ⟨f, rfl⟩ : ∃ f', f = f' + 1 := ⟨f - 1, by omega⟩
    exact br_t (bl_predlt (by omega)) hp
  | succ l ih =>
    intro en hl T
    obtain ⟨m', hm', E⟩ := pf_ex V (i := l) (by omega)
    obtain ⟨en', T', U', W'⟩ := ih (upd en (bl_yb r + l) (nI (bl_yb r + m'))) (by omega) (fun i h1 h2 => by
      by_cases c : i = l
      · subst c; exact ⟨m', E, pk_us⟩
      · obtain ⟨m, e1, e2⟩ := T i (by omega) h2
        exact ⟨m, e1, (pk_un (by omega)).trans e2⟩)
    refine ⟨en', T', fun p hp => (U' p hp).trans (pk_un (hp l (by omega))), fun post f hf hp => ?_⟩
    obtain ⟨f, rfl⟩ : ∃ f', f = f' + 1 := ⟨f - 1, by omega⟩
    have q := W' post f (by omega) hp
    rw [show bl_yb r + (l + 1) = bl_yb r + l + 1 from rfl, pk_m1]
    refine br_f (nI_nlt (by omega) (by omega)) (nm_r (e' := nI (bl_yb r + (l + 1))) (nI_1 _) ⟨4, ?_⟩)
    exact bl_fe_in hk hr hn hy V (by omega) E (fun i h1 h2 => T i (by omega) h2) q (bl_rg kX r l) 0 (l + 1) (by omega) rfl 4 (Nat.lt_of_le_of_lt (bl_ar_le _) (by decide))
theorem bl_fe (hk : ∀ p, p < 240 → bl_tk (kX p) (vX p)) (hr : r < 5) (hn : n ≤ 48) (hy : ∀ i, i < n → kY (bl_yb r + i) = kX (48 * r + i)) (V : pf_V (bl_rg kX r) n) : ∃ en' : Nat → Int32, (∀ i, i < n → ∃ m, pf_E (bl_rg kX r) i m ∧ en' (bl_yb r + i) = nI (bl_yb r + m)) ∧ (∀ p, (∀ i, i < n → p ≠ bl_yb r + i) → en' p = en p) ∧ ∀ post : SY → Prop, post (yen, ycl, yw, yb, xst, ym, ya, ys, yk, yv, yc, yt, rk, rv, kY, nY, en', ln, pr, sp, pk, pv, th, ss, po, so, cy, cb, cs, gt, ph, ge, gk, gv, bp, ok, ov, ob) → wpY_findEnds post (yen, ycl, yw, yb, xst, ym, ya, ys, yk, yv, yc, yt, rk, rv, kY, nY, en, ln, pr, sp, pk, pv, th, ss, po, so, cy, cb, cs, gt, ph, ge, gk, gv, bp, ok, ov, ob) (nI (bl_yb r)) (nI n) := by
  obtain ⟨en', T, U, W⟩ := bl_fe_out (kX := kX) (vX := vX) (yen := yen) (ycl := ycl) (yw := yw) (xst := xst) (ym := ym) (ya := ya) (ys := ys) (yk := yk) (yv := yv) (yc := yc) (yt := yt) (rk := rk) (rv := rv) (kY := kY) (nY := nY) (ln := ln) (pr := pr) (sp := sp) (pk := pk) (pv := pv) (th := th) (ss := ss) (po := po) (so := so) (cy := cy) (cb := cb) (cs := cs) (gt := gt) (ph := ph) (ge := ge) (gk := gk) (gv := gv) (bp := bp) (ok := ok) (ov := ov) (ob := ob) (yb := yb) hk hr hn hy V n en (Nat.le_refl _) (fun i h1 h2 => by omega)
  refine ⟨en', T, U, fun post hp => nm_r (e' := nI (bl_yb r + n) + (-1)) ?_ ⟨n + 1, W post (n + 1) (by omega) hp⟩⟩
  rw [nI_add]
  exact Int32.sub_eq_add_neg _ _
theorem bl_x_fin {post : SX → Prop} (hp : post (dl, lr, lc, xst, xd, xcl, xsc, xm, xa, xs, xb, xg, xe, kX, vX, df, pr, sp, (fun i => if i < 32 ∧ (20000000000 : Int64) ≤ pl i then 10000000000 else pl i), th, fc, fs, fb, fd, fv, fe, kp, kv, cc, cs, ss, sv, so)) : ∃ m, wX_finishRun_55 post dl lr lc xst xd xcl xsc xm xa xs xb xg xe m 0 kX vX df pr sp pl th fc fs fb fd fv fe kp kv cc cs ss sv so := by
  have key : ∀ f l, l ≤ 32 → 32 - l < f → wX_finishRun_55 post dl lr lc xst xd xcl xsc xm xa xs xb xg xe f (nI l) kX vX df pr sp (fun i => if i < l ∧ (20000000000 : Int64) ≤ pl i then 10000000000 else pl i) th fc fs fb fd fv fe kp kv cc cs ss sv so := by
    intro f
    induction f with
    | zero => intro l _ h; omega
    | succ f ih =>
      intro l h1 h2
      by_cases c : l = 32
      · subst c
        exact br_t (by decide) hp
      · have cl0 : (nI l).toNatClampNeg = l := nI_clamp (by omega)
        have i1 : vp_in (nI l) 32 := vp_in_nI (by omega) (by decide)
        have q := ih (l + 1) (by omega) (by omega)
        refine br_f (nI_ge (b := 32) (by omega) (by decide)) ⟨i1, ?_⟩
        rw [cl0]
        have e0 : (fun i => if i < l ∧ (20000000000 : Int64) ≤ pl i then 10000000000 else pl i) l = pl l := if_neg (fun z => absurd z.1 (by omega))
        rw [e0]
        by_cases z : pl l < 20000000000
        · refine br_t z (br_t rfl (nm_r (nI_1 l) ?_))
          have e : (fun i => if i < l + 1 ∧ (20000000000 : Int64) ≤ pl i then 10000000000 else pl i) = (fun i => if i < l ∧ (20000000000 : Int64) ≤ pl i then 10000000000 else pl i) := by
            funext i
            by_cases y : i = l
            · subst y
              rw [if_neg (fun w => absurd z (Int64.not_lt.mpr w.2)), if_neg (fun w => absurd w.1 (by omega))]
            · have : (i < l + 1 ∧ (20000000000 : Int64) ≤ pl i) ↔ (i < l ∧ (20000000000 : Int64) ≤ pl i) := ⟨fun w => ⟨by omega, w.2⟩, fun w => ⟨by omega, w.2⟩⟩
              simp only [this]
          rw [e] at q
          exact q
        · refine br_f z (br_f (by decide) ⟨i1, nm_r (e' := (fun i => if i < l + 1 ∧ (20000000000 : Int64) ≤ pl i then 10000000000 else pl i)) ?_ (nm_r (nI_1 l) q)⟩)
          funext i
          unfold vp_updL
          by_cases y : i = l
          · subst y
            rw [if_pos rfl, if_pos ⟨by omega, Int64.not_lt.mp z⟩]
          · have : (i < l + 1 ∧ (20000000000 : Int64) ≤ pl i) ↔ (i < l ∧ (20000000000 : Int64) ≤ pl i) := ⟨fun w => ⟨by omega, w.2⟩, fun w => ⟨by omega, w.2⟩⟩
            rw [if_neg y]
            simp only [this]
  have q := key 33 0 (by omega) (by omega)
  have e : (fun i => if i < 0 ∧ (20000000000 : Int64) ≤ pl i then 10000000000 else pl i) = pl := by
    funext i
    rw [if_neg (fun w => absurd w.1 (by omega))]
  rw [e] at q
  exact ⟨33, q⟩
theorem bl_y_fin {post : Int32 → SY → Prop} {ans : Int32} (ha : (ym = 0 ∧ ans = 0) ∨ (ym = 3 ∧ ans = 5) ∨ (ym = 2 ∧ ans = yc)) (hp : post ans (yen, ycl, yw, yb, xst, ym, ya, ys, yk, yv, yc, yt, rk, rv, kY, nY, en, ln, pr, sp, (fun i => if i < 32 ∧ pk i = 1 then 2 else pk i), pv, th, ss, po, so, cy, cb, cs, gt, ph, ge, gk, gv, bp, ok, ov, ob)) : ∃ m, wY_run_187 post yen ycl yw yb xst ym ya ys yk yv yc yt rk rv m 0 kY nY en ln pr sp pk pv th ss po so cy cb cs gt ph ge gk gv bp ok ov ob := by
  have key : ∀ f l, l ≤ 32 → 32 - l < f → wY_run_187 post yen ycl yw yb xst ym ya ys yk yv yc yt rk rv f (nI l) kY nY en ln pr sp (fun i => if i < l ∧ pk i = 1 then 2 else pk i) pv th ss po so cy cb cs gt ph ge gk gv bp ok ov ob := by
    intro f
    induction f with
    | zero => intro l _ h; omega
    | succ f ih =>
      intro l h1 h2
      by_cases c : l = 32
      · subst c
        refine br_t (by decide) ?_
        rcases ha with ⟨rfl, rfl⟩ | ⟨rfl, rfl⟩ | ⟨rfl, rfl⟩
        · exact br_t rfl hp
        · exact br_f (by decide) (br_t rfl hp)
        · exact br_f (by decide) (br_f (by decide) hp)
      · have cl0 : (nI l).toNatClampNeg = l := nI_clamp (by omega)
        have i1 : vp_in (nI l) 340 := vp_in_nI (by omega) (by decide)
        have q := ih (l + 1) (by omega) (by omega)
        refine br_f (nI_ge (b := 32) (by omega) (by decide)) ⟨i1, ?_⟩
        rw [cl0]
        have e0 : (fun i => if i < l ∧ pk i = 1 then 2 else pk i) l = pk l := if_neg (fun z => absurd z.1 (by omega))
        rw [e0]
        by_cases z : pk l = 1
        · refine br_t z ⟨i1, nm_r (e' := (fun i => if i < l + 1 ∧ pk i = 1 then 2 else pk i)) ?_ (nm_r (nI_1 l) q)⟩
          funext i
          unfold upd
          by_cases y : i = l
          · subst y
            rw [if_pos rfl, if_pos ⟨by omega, z⟩]
          · have : (i < l + 1 ∧ pk i = 1) ↔ (i < l ∧ pk i = 1) := ⟨fun w => ⟨by omega, w.2⟩, fun w => ⟨by omega, w.2⟩⟩
            rw [if_neg y]
            simp only [this]
        · refine br_f z (nm_r (nI_1 l) ?_)
          have e : (fun i => if i < l + 1 ∧ pk i = 1 then 2 else pk i) = (fun i => if i < l ∧ pk i = 1 then 2 else pk i) := by
            funext i
            by_cases y : i = l
            · subst y
              rw [if_neg (fun w => absurd w.2 z), if_neg (fun w => absurd w.1 (by omega))]
            · have : (i < l + 1 ∧ pk i = 1) ↔ (i < l ∧ pk i = 1) := ⟨fun w => ⟨by omega, w.2⟩, fun w => ⟨by omega, w.2⟩⟩
              simp only [this]
          rw [e] at q
          exact q
  have q := key 33 0 (by omega) (by omega)
  have e : (fun i => if i < 0 ∧ pk i = 1 then 2 else pk i) = pk := by
    funext i
    rw [if_neg (fun w => absurd w.1 (by omega))]
  rw [e] at q
  exact ⟨33, q⟩
theorem bl_Po_fin (hc : cl < 1000) (P : bl_Po cl pl pk pv) : bl_Po 0 (fun i => if i < 32 ∧ (20000000000 : Int64) ≤ pl i then 10000000000 else pl i) (fun i => if i < 32 ∧ pk i = 1 then 2 else pk i) pv := by
  intro i hi
  have h := P i hi
  have hcl := bl_vr_c hc h
  show bl_vr 0 (if i < 32 ∧ (20000000000 : Int64) ≤ pl i then 10000000000 else pl i) (if i < 32 ∧ pk i = 1 then 2 else pk i) (pv i)
  by_cases z : pk i = 1
  · rw [if_pos ⟨hi, hcl.mpr z⟩, if_pos ⟨hi, z⟩]
    exact Or.inr (Or.inr ⟨rfl, rfl⟩)
  · rw [if_neg (fun w => z (hcl.mp w.2)), if_neg (fun w => z w.2)]
    rcases h with h | h | h
    · exact Or.inl h
    · exact absurd h.1 z
    · exact Or.inr (Or.inr h)
end
