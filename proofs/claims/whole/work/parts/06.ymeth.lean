/-! the inner methods of the reference, and pairs of methods -/
section
variable {dl lc xst xd xcl xsc xm xa xs xb xe yen ycl yw ym ya ys yk yv yc yt rk rv : Int32}
variable {lr xg : Int64}
variable {kX vX df pr sp th fc fs fb fd fe kp cc cs ss so kY nY en ln pk pv po cy cb gt ph ge gk gv bp ok ov ob : Nat → Int32}
variable {pl fv kv sv : Nat → Int64}
variable {L : Nat → Nat} {d h w r t m m2 p j b sc cl : Nat}
theorem bl_y_op1 (h1 : bl_yb r + (t + 1) < 240) (he : en (bl_yb r + (t + 1)) = nI (bl_yb r + m)) {post : Int32 → Prop} (hp : post (nI (bl_yb r + m))) : wpY_operand post (yen, ycl, yw, xb, xst, ym, ya, ys, yk, yv, yc, yt, rk, rv, kY, nY, en, ln, pr, sp, pk, pv, th, ss, po, so, cy, cb, cs, gt, ph, ge, gk, gv, bp, ok, ov, ob) (nI (bl_yb r + t)) 1 := by
  refine nm_r (e' := nI (bl_yb r + (t + 1))) (nI_1 _) ⟨2, br_f (by decide) ⟨vp_in_nI h1 (by decide), nm_r (e' := nI (bl_yb r + m)) ?_ (nm_r (e' := 1) (by decide) (br_t (by decide) hp))⟩⟩
  rw [nI_clamp (by omega), he]
theorem bl_y_op2 (h1 : bl_yb r + (t + 1) < 240) (he : en (bl_yb r + (t + 1)) = nI (bl_yb r + m)) (h2 : bl_yb r + m < 240) (he2 : en (bl_yb r + m) = nI (bl_yb r + m2)) {post : Int32 → Prop} (hp : post (nI (bl_yb r + m2))) : wpY_operand post (yen, ycl, yw, xb, xst, ym, ya, ys, yk, yv, yc, yt, rk, rv, kY, nY, en, ln, pr, sp, pk, pv, th, ss, po, so, cy, cb, cs, gt, ph, ge, gk, gv, bp, ok, ov, ob) (nI (bl_yb r + t)) 2 := by
  refine nm_r (e' := nI (bl_yb r + (t + 1))) (nI_1 _) ⟨3, br_f (by decide) ⟨vp_in_nI h1 (by decide), nm_r (e' := nI (bl_yb r + m)) ?_ (nm_r (e' := 1) (by decide) (br_f (by decide) ⟨vp_in_nI h2 (by decide), nm_r (e' := nI (bl_yb r + m2)) ?_ (nm_r (e' := 2) (by decide) (br_t (by decide) hp))⟩))⟩⟩
  · rw [nI_clamp (by omega), he]
  · rw [nI_clamp (by omega), he2]
theorem bl_y_gb1 (hw : w < 320) (hb : bp w = -1) {post : SY → Prop} (hp : post (yen, ycl, yw, xb, xst, ym, ya, ys, yk, yv, yc, yt, rk, rv, kY, nY, en, ln, pr, sp, pk, pv, th, ss, po, so, cy, cb, cs, gt, ph, ge, gk, gv, bp, ok, ov, ob)) : wpY_giveBack post (yen, ycl, yw, xb, xst, ym, ya, ys, yk, yv, yc, yt, rk, rv, kY, nY, en, ln, pr, sp, pk, pv, th, ss, po, so, cy, cb, cs, gt, ph, ge, gk, gv, bp, ok, ov, ob) (nI w) := by
  refine ⟨vp_in_nI hw (by decide), br_f ?_ hp⟩
  rw [nI_clamp (by omega), hb]
  decide
theorem bl_y_gb2 (hw : w < 320) (hb : bp w = nI p) (hp0 : p < 32) {post : SY → Prop} (hp : post (yen, ycl, yw, xb, xst, ym, ya, ys, yk, yv, yc, yt, rk, rv, kY, nY, en, ln, pr, sp, (upd pk p (ok w)), (upd pv p (ov w)), th, ss, po, so, cy, cb, cs, gt, ph, ge, gk, gv, (upd bp w (-1)), ok, ov, ob)) : wpY_giveBack post (yen, ycl, yw, xb, xst, ym, ya, ys, yk, yv, yc, yt, rk, rv, kY, nY, en, ln, pr, sp, pk, pv, th, ss, po, so, cy, cb, cs, gt, ph, ge, gk, gv, bp, ok, ov, ob) (nI w) := by
  refine ⟨vp_in_nI hw (by decide), ?_⟩
  have i1 : vp_in (nI w) 320 := vp_in_nI hw (by decide)
  have i2 : vp_in (nI p) 340 := vp_in_nI (by omega) (by decide)
  rw [nI_clamp (by omega), hb, nI_clamp (by omega)]
  exact br_t (nI_pos' (by omega)) ⟨i1, i1, i2, nm_e ⟨i1, i1, i2, nm_e ⟨i1, nm_e hp⟩⟩⟩
/-- a frame that both sides have is closed: what was bound is given back -/
theorem bl_close (hd : d < 300) (hw : w < 320) (B : bl_bd cl (kp d) (kv d) (bp w) (ok w) (ov w)) (P : bl_Po cl pl pk pv) (V : bl_Vo cl sc sv pk pv) : ∃ (pl' : Nat → Int64) (pk' pv' bp' : Nat → Int32), bl_Po cl pl' pk' pv' ∧ bl_Vo cl sc sv pk' pv' ∧ (∀ i, i ≠ w → bp' i = bp i)
    ∧ (∀ post : SX → Prop, post (dl, lr, lc, xst, (nI d), xcl, xsc, xm, xa, xs, (fb d), xg, xe, kX, vX, df, pr, sp, pl', th, fc, fs, fb, fd, fv, fe, kp, kv, cc, cs, ss, sv, so) → wpX_closeFrame post (dl, lr, lc, xst, (nI (d + 1)), xcl, xsc, xm, xa, xs, xb, xg, xe, kX, vX, df, pr, sp, pl, th, fc, fs, fb, fd, fv, fe, kp, kv, cc, cs, ss, sv, so)) ∧ (∀ post : SY → Prop, post (yen, ycl, yw, xb, xst, ym, ya, ys, yk, yv, yc, yt, rk, rv, kY, nY, en, ln, pr, sp, pk', pv', th, ss, po, so, cy, cb, cs, gt, ph, ge, gk, gv, bp', ok, ov, ob) → wpY_giveBack post (yen, ycl, yw, xb, xst, ym, ya, ys, yk, yv, yc, yt, rk, rv, kY, nY, en, ln, pr, sp, pk, pv, th, ss, po, so, cy, cb, cs, gt, ph, ge, gk, gv, bp, ok, ov, ob) (nI w)) := by
  rcases B with ⟨b1, b2⟩ | ⟨p, b0, b1, b2, b3⟩
  · exact ⟨pl, pk, pv, bp, P, V, fun _ _ => rfl, fun post hp => bl_x_cl1 hd b1 hp, fun post hp => bl_y_gb1 hw b2 hp⟩
  · exact ⟨vp_updL pl p (kv d), upd pk p (ok w), upd pv p (ov w), upd bp w (-1), bl_Po_set P p b3, bl_Vo_pl V b0 _ _, fun i hi => pk_un hi, fun post hp => bl_x_cl2 hd b1 b0 hp, fun post hp => bl_y_gb2 hw b2 b0 hp⟩
theorem bl_y_hu (hy : ∀ i, i < h → ∃ p, p < 240 ∧ gt i = nI p) (hh : h ≤ 300) (hj : j < 4) {post : SY → Prop} (h1 : bl_hy kY nY (bl_y gt ph ge gk gv bp ok ov ob) h j → post (yen, ycl, (nI h), xb, xst, 2, ya, ys, yk, yv, 0, (nI j), rk, rv, kY, nY, en, ln, pr, sp, pk, pv, th, ss, po, so, cy, cb, cs, gt, ph, ge, gk, gv, bp, ok, ov, ob)) (h0 : ¬ bl_hy kY nY (bl_y gt ph ge gk gv bp ok ov ob) h j → post (yen, ycl, (nI h), xb, xst, 2, ya, ys, yk, yv, 3, (-1), rk, rv, kY, nY, en, ln, pr, sp, pk, pv, th, ss, po, so, cy, cb, cs, gt, ph, ge, gk, gv, bp, ok, ov, ob)) : wpY_hurl post (yen, ycl, (nI h), xb, xst, ym, ya, ys, yk, yv, yc, yt, rk, rv, kY, nY, en, ln, pr, sp, pk, pv, th, ss, po, so, cy, cb, cs, gt, ph, ge, gk, gv, bp, ok, ov, ob) (nI j) := by
  have key : ∀ n l (x : Int32), l ≤ h → h - l < n → ((x = 0 ∧ ¬ bl_hy kY nY (bl_y gt ph ge gk gv bp ok ov ob) l j) ∨ (x = 1 ∧ bl_hy kY nY (bl_y gt ph ge gk gv bp ok ov ob) l j)) → wY_hurl_4 post (nI j) yen ycl (nI h) xb xst ym ya ys yk yv yc yt rk rv kY nY en ln pr sp pk pv th ss po so cy cb cs gt ph ge gk gv bp ok ov ob n x (nI l) := by
    intro n
    induction n with
    | zero => intro l x _ h; omega
    | succ n ih =>
      intro l x h1' h2 h3
      by_cases c : l = h
      · subst c
        refine br_t (nI_le (Nat.le_refl _) (by omega)) ?_
        rcases h3 with ⟨rfl, h3⟩ | ⟨rfl, h3⟩
        · exact br_t rfl (h0 h3)
        · exact br_f (by decide) (h1 h3)
      · obtain ⟨p, p1, p2⟩ := hy l (by omega)
        have i1 : vp_in (nI l) 320 := vp_in_nI (by omega) (by decide)
        have i2 : vp_in (nI p) 240 := vp_in_nI p1 (by decide)
        refine br_f (nI_ge (by omega) (by omega)) ⟨i1, ?_⟩
        rw [nI_clamp (by omega), p2, nI_clamp (by omega)]
        have uq : ∀ p', p' < 240 → gt l = nI p' → p' = p := by
          intro p' l' e
          rw [p2] at e
          exact ((nI_eq (by omega) (by omega)).mp e).symm
        have no : ¬ (kY p = 12 ∧ nY p = nI j) → (x = 0 ∧ ¬ bl_hy kY nY (bl_y gt ph ge gk gv bp ok ov ob) (l + 1) j) ∨ (x = 1 ∧ bl_hy kY nY (bl_y gt ph ge gk gv bp ok ov ob) (l + 1) j) := by
          intro q
          rcases h3 with ⟨e, h3⟩ | ⟨e, h3⟩
          · refine Or.inl ⟨e, ?_⟩
            rintro ⟨i, p', a1, a2, a3, a4, a5⟩
            by_cases e : i = l
            · subst e
              have := uq p' a2 a3
              subst this
              exact q ⟨a4, a5⟩
            · exact h3 ⟨i, p', by omega, a2, a3, a4, a5⟩
          · obtain ⟨i, p', a1, a2⟩ := h3
            exact Or.inr ⟨e, i, p', by omega, a2⟩
        have or0 : x ||| 0 = x := by
          rcases h3 with ⟨rfl, _⟩ | ⟨rfl, _⟩ <;> decide
        have or1 : x ||| 1 = 1 := by
          rcases h3 with ⟨rfl, _⟩ | ⟨rfl, _⟩ <;> decide
        by_cases k : kY p = 12
        · refine ⟨i2, br_t k ⟨i1, i2, ?_⟩⟩
          by_cases q : nY p = nI j
          · refine br_t q (nm_r or1 (nm_r (nI_1 l) (ih (l + 1) 1 (by omega) (by omega) (Or.inr ⟨rfl, l, p, by omega, p1, p2, k, q⟩))))
          · exact br_f q (nm_r or0 (nm_r (nI_1 l) (ih (l + 1) x (by omega) (by omega) (no (fun z => q z.2)))))
        · exact ⟨i2, br_f k (nm_r or0 (nm_r (nI_1 l) (ih (l + 1) x (by omega) (by omega) (no (fun z => k z.1)))))⟩
  exact ⟨h + 1, key (h + 1) 0 0 (by omega) (by omega) (Or.inl ⟨rfl, fun ⟨i, _, hi, _⟩ => by omega⟩)⟩
theorem bl_lk0 (So : bl_So sp ss so po sc) (hsc : sc ≤ 300) (hj : j < 8) (hs : sp j = 0) : ∀ (K : Nat) (e : Int32), K ≤ sc → bl_sc K e →
    (∃ m, m < sc ∧ (∀ (post : Int32 → Prop) (n x : Nat), K < n → x + K ≤ 300 → post (nI m) → wX_scopeOf_5 post (nI j) dl lr lc xst xd xcl xsc xm xa xs xb xg xe kX vX df pr sp pl th fc fs fb fd fv fe kp kv cc cs ss sv so n e (nI x)) ∧ (∀ (post : Int32 → Prop) (n : Nat), K < n → post (nI (32 + m)) → wY_placeFor_2 post (nI j) yen ycl yw xb xst ym ya ys yk yv yc yt rk rv kY nY en ln pr sp pk pv th ss po so cy cb cs gt ph ge gk gv bp ok ov ob n e))
    ∨ ((∀ (post : Int32 → Prop) (n x : Nat), K < n → x + K ≤ 300 → post (-1) → wX_scopeOf_5 post (nI j) dl lr lc xst xd xcl xsc xm xa xs xb xg xe kX vX df pr sp pl th fc fs fb fd fv fe kp kv cc cs ss sv so n e (nI x)) ∧ (∀ (post : Int32 → Prop) (n : Nat), K < n → wpY_present post (yen, ycl, yw, xb, xst, ym, ya, ys, yk, yv, yc, yt, rk, rv, kY, nY, en, ln, pr, sp, pk, pv, th, ss, po, so, cy, cb, cs, gt, ph, ge, gk, gv, bp, ok, ov, ob) (nI j) → wY_placeFor_2 post (nI j) yen ycl yw xb xst ym ya ys yk yv yc yt rk rv kY nY en ln pr sp pk pv th ss po so cy cb cs gt ph ge gk gv bp ok ov ob n e)) := by
  have neg : ∀ K : Nat, (∀ (post : Int32 → Prop) (n x : Nat), K < n → x + K ≤ 300 → post (-1) → wX_scopeOf_5 post (nI j) dl lr lc xst xd xcl xsc xm xa xs xb xg xe kX vX df pr sp pl th fc fs fb fd fv fe kp kv cc cs ss sv so n (-1) (nI x)) ∧ (∀ (post : Int32 → Prop) (n : Nat), K < n → wpY_present post (yen, ycl, yw, xb, xst, ym, ya, ys, yk, yv, yc, yt, rk, rv, kY, nY, en, ln, pr, sp, pk, pv, th, ss, po, so, cy, cb, cs, gt, ph, ge, gk, gv, bp, ok, ov, ob) (nI j) → wY_placeFor_2 post (nI j) yen ycl yw xb xst ym ya ys yk yv yc yt rk rv kY nY en ln pr sp pk pv th ss po so cy cb cs gt ph ge gk gv bp ok ov ob n (-1)) := by
    intro K
    refine ⟨fun post n x hn _ hp => ?_, fun post n hn hp => ?_⟩
    · obtain ⟨n, rfl⟩ : ∃ n', n = n' + 1 := ⟨n - 1, by omega⟩
      exact br_c (fun _ => hp) (fun _ => br_t rfl hp)
    · obtain ⟨n, rfl⟩ : ∃ n', n = n' + 1 := ⟨n - 1, by omega⟩
      exact br_t (by decide) hp
  intro K
  induction K with
  | zero =>
    intro e _ he
    rcases he with rfl | ⟨i, hi, _⟩
    · exact Or.inr (neg 0)
    · omega
  | succ K ih =>
    intro e hK he
    rcases he with rfl | ⟨i, hi, rfl⟩
    · exact Or.inr (neg (K + 1))
    · obtain ⟨s1, s2, j', j1, j2, j3⟩ := So i (by omega)
      have v8 : vp_in (nI j) 8 := vp_in_nI hj (by decide)
      have vX3 : vp_in (nI i) 300 := vp_in_nI (by omega) (by decide)
      have vY3 : vp_in (nI i) 310 := vp_in_nI (by omega) (by decide)
      have ci : (nI i).toNatClampNeg = i := nI_clamp (by omega)
      have cj : (nI j).toNatClampNeg = j := nI_clamp (by omega)
      by_cases c : ss i = nI j
      · refine Or.inl ⟨i, by omega, fun post n x hn hx hp => ?_, fun post n hn hp => ?_⟩
        · obtain ⟨n, rfl⟩ : ∃ n', n = n' + 1 := ⟨n - 1, by omega⟩
          refine br_f (nI_ge (b := 300) (by omega) (by decide)) (br_f (bl_neg1 (by omega)) ⟨vX3, ?_⟩)
          rw [ci]
          exact br_t c hp
        · obtain ⟨n, rfl⟩ : ∃ n', n = n' + 1 := ⟨n - 1, by omega⟩
          refine br_f (nI_pos (by omega)) ⟨v8, ?_⟩
          rw [ci, cj]
          refine br_t hs ⟨vY3, br_t c ⟨vY3, ?_⟩⟩
          rw [s2]; exact hp
      · have st := ih (so i) (by omega) (bl_sc_up (by omega) s1)
        have goX : ∀ (post : Int32 → Prop) (n x : Nat), x + (K + 1) ≤ 300 → wX_scopeOf_5 post (nI j) dl lr lc xst xd xcl xsc xm xa xs xb xg xe kX vX df pr sp pl th fc fs fb fd fv fe kp kv cc cs ss sv so n (so i) (nI (x + 1)) → wX_scopeOf_5 post (nI j) dl lr lc xst xd xcl xsc xm xa xs xb xg xe kX vX df pr sp pl th fc fs fb fd fv fe kp kv cc cs ss sv so (n + 1) (nI i) (nI x) := by
          intro post n x hx hw
          refine br_f (nI_ge (b := 300) (by omega) (by decide)) (br_f (bl_neg1 (by omega)) ⟨vX3, ?_⟩)
          rw [ci]
          exact br_f c ⟨vX3, nm_e (nm_r (nI_1 x) hw)⟩
        have goY : ∀ (post : Int32 → Prop) (n : Nat), wY_placeFor_2 post (nI j) yen ycl yw xb xst ym ya ys yk yv yc yt rk rv kY nY en ln pr sp pk pv th ss po so cy cb cs gt ph ge gk gv bp ok ov ob n (so i) → wY_placeFor_2 post (nI j) yen ycl yw xb xst ym ya ys yk yv yc yt rk rv kY nY en ln pr sp pk pv th ss po so cy cb cs gt ph ge gk gv bp ok ov ob (n + 1) (nI i) := by
          intro post n hw
          refine br_f (nI_pos (by omega)) ⟨v8, ?_⟩
          rw [ci, cj]
          exact br_t hs ⟨vY3, br_f c ⟨vY3, nm_e hw⟩⟩
        rcases st with ⟨m, hm, a, b⟩ | ⟨a, b⟩
        · refine Or.inl ⟨m, hm, fun post n x hn hx hp => ?_, fun post n hn hp => ?_⟩
          · obtain ⟨n, rfl⟩ : ∃ n', n = n' + 1 := ⟨n - 1, by omega⟩
            exact goX post n x hx (a post n (x + 1) (by omega) (by omega) hp)
          · obtain ⟨n, rfl⟩ : ∃ n', n = n' + 1 := ⟨n - 1, by omega⟩
            exact goY post n (b post n (by omega) hp)
        · refine Or.inr ⟨fun post n x hn hx hp => ?_, fun post n hn hp => ?_⟩
          · obtain ⟨n, rfl⟩ : ∃ n', n = n' + 1 := ⟨n - 1, by omega⟩
            exact goX post n x hx (a post n (x + 1) (by omega) (by omega) hp)
          · obtain ⟨n, rfl⟩ : ∃ n', n = n' + 1 := ⟨n - 1, by omega⟩
            exact goY post n (b post n (by omega) hp)
theorem bl_lk1 (So : bl_So sp ss so po sc) (hsc : sc ≤ 300) (hj : j < 8) (hs : ¬ sp j = 0) {post : Int32 → Prop} (hp : post (-1)) : ∀ (K : Nat) (e : Int32), K ≤ sc → bl_sc K e → ∀ n x : Nat, K < n → x + K ≤ 300 → wX_scopeOf_5 post (nI j) dl lr lc xst xd xcl xsc xm xa xs xb xg xe kX vX df pr sp pl th fc fs fb fd fv fe kp kv cc cs ss sv so n e (nI x) := by
  intro K
  induction K with
  | zero =>
    intro e _ he n x hn _
    obtain ⟨n, rfl⟩ : ∃ n', n = n' + 1 := ⟨n - 1, by omega⟩
    rcases he with rfl | ⟨i, hi, _⟩
    · exact br_c (fun _ => hp) (fun _ => br_t rfl hp)
    · omega
  | succ K ih =>
    intro e hK he n x hn hx
    obtain ⟨n, rfl⟩ : ∃ n', n = n' + 1 := ⟨n - 1, by omega⟩
    rcases he with rfl | ⟨i, hi, rfl⟩
    · exact br_c (fun _ => hp) (fun _ => br_t rfl hp)
    · obtain ⟨s1, s2, j', j1, j2, j3⟩ := So i (by omega)
      have c : ¬ ss i = nI j := by
        intro c
        rw [j2, nI_eq (by omega) (by omega)] at c
        rw [c] at j3
        exact hs j3
      refine br_f (nI_ge (b := 300) (by omega) (by decide)) (br_f (bl_neg1 (by omega)) ⟨vp_in_nI (by omega) (by decide), ?_⟩)
      rw [nI_clamp (by omega)]
      exact br_f c ⟨vp_in_nI (by omega) (by decide), nm_e (nm_r (nI_1 x) (ih (so i) (by omega) (bl_sc_up (by omega) s1) n (x + 1) (by omega) (by omega)))⟩
/-- where a symbol is found: in a scope, or at its present place -/
theorem bl_look {e : Int32} (So : bl_So sp ss so po sc) (hsc : sc ≤ 300) (hj : j < 8) (he : bl_sc sc e) :
    (∃ m, m < sc ∧ (∀ post : Int32 → Prop, post (nI m) → wpX_scopeOf post (dl, lr, lc, xst, xd, xcl, xsc, xm, xa, xs, xb, xg, xe, kX, vX, df, pr, sp, pl, th, fc, fs, fb, fd, fv, fe, kp, kv, cc, cs, ss, sv, so) (nI j) e) ∧ (∀ post : Int32 → Prop, post (nI (32 + m)) → wpY_placeFor post (yen, ycl, yw, xb, xst, ym, ya, ys, yk, yv, yc, yt, rk, rv, kY, nY, en, ln, pr, sp, pk, pv, th, ss, po, so, cy, cb, cs, gt, ph, ge, gk, gv, bp, ok, ov, ob) (nI j) e))
    ∨ ((∀ post : Int32 → Prop, post (-1) → wpX_scopeOf post (dl, lr, lc, xst, xd, xcl, xsc, xm, xa, xs, xb, xg, xe, kX, vX, df, pr, sp, pl, th, fc, fs, fb, fd, fv, fe, kp, kv, cc, cs, ss, sv, so) (nI j) e) ∧ (∀ post : Int32 → Prop, wpY_present post (yen, ycl, yw, xb, xst, ym, ya, ys, yk, yv, yc, yt, rk, rv, kY, nY, en, ln, pr, sp, pk, pv, th, ss, po, so, cy, cb, cs, gt, ph, ge, gk, gv, bp, ok, ov, ob) (nI j) → wpY_placeFor post (yen, ycl, yw, xb, xst, ym, ya, ys, yk, yv, yc, yt, rk, rv, kY, nY, en, ln, pr, sp, pk, pv, th, ss, po, so, cy, cb, cs, gt, ph, ge, gk, gv, bp, ok, ov, ob) (nI j) e)) := by
  by_cases hs : sp j = 0
  · rcases bl_lk0 So hsc hj hs sc e (Nat.le_refl _) he with ⟨m, hm, a, b⟩ | ⟨a, b⟩
    · exact Or.inl ⟨m, hm, fun post hp => ⟨sc + 1, a post (sc + 1) 0 (by omega) (by omega) hp⟩, fun post hp => ⟨sc + 1, b post (sc + 1) (by omega) hp⟩⟩
    · exact Or.inr ⟨fun post hp => ⟨sc + 1, a post (sc + 1) 0 (by omega) (by omega) hp⟩, fun post hp => ⟨sc + 1, b post (sc + 1) (by omega) hp⟩⟩
  · refine Or.inr ⟨fun post hp => ⟨sc + 1, bl_lk1 So hsc hj hs hp sc e (Nat.le_refl _) he (sc + 1) 0 (by omega) (by omega)⟩, fun post hp => ⟨1, ?_⟩⟩
    refine br_c (fun _ => hp) (fun _ => ⟨vp_in_nI hj (by decide), br_f ?_ hp⟩)
    rw [nI_clamp (by omega)]; exact hs
/-- both sides bind what is given -/
theorem bl_bind {o tk : Int32} (So : bl_So sp ss so po sc) (P : bl_Po cl pl pk pv) (V : bl_Vo cl sc sv pk pv) (hsc : sc < 300) (hd : d < 300) (hw : w < 320) (hj : j < 8) (hb : b < 3) (ho : bl_sc sc o) (hg : bl_vg cl xg yk yv) (k1 : kp d = -1) (k2 : bp w = -1) :
    ∃ (pl' : Nat → Int64) (pk' pv' ss' : Nat → Int32) (sv' : Nat → Int64) (so' po' kp' : Nat → Int32) (kv' : Nat → Int64) (bp' ok' ov' : Nat → Int32) (sc' : Nat) (i : Int32), bl_So sp ss' so' po' sc' ∧ bl_Po cl pl' pk' pv' ∧ bl_Vo cl sc' sv' pk' pv' ∧ sc ≤ sc' ∧ sc' ≤ sc + 1 ∧ bl_sc sc' i ∧ bl_bd cl (kp' d) (kv' d) (bp' w) (ok' w) (ov' w)
      ∧ (∀ i, i ≠ d → kp' i = kp i ∧ kv' i = kv i) ∧ (∀ i, i ≠ w → bp' i = bp i ∧ ok' i = ok i ∧ ov' i = ov i)
      ∧ (∀ post : Int32 → SX → Prop, post i (dl, lr, lc, xst, (nI (d + 1)), xcl, (nI sc'), xm, xa, xs, (nI b), xg, xe, kX, vX, df, pr, sp, pl', th, fc, fs, fb, fd, fv, fe, kp', kv', cc, cs, ss', sv', so') → wpX_bind post (dl, lr, lc, xst, (nI (d + 1)), xcl, (nI sc), xm, xa, xs, (nI b), xg, xe, kX, vX, df, pr, sp, pl, th, fc, fs, fb, fd, fv, fe, kp, kv, cc, cs, ss, sv, so) (nI j) o) ∧ (∀ post : SY → Prop, post ((nI sc'), ycl, yw, (nI b), xst, 1, tk, i, yk, yv, yc, yt, rk, rv, kY, nY, en, ln, pr, sp, pk', pv', th, ss', po', so', cy, cb, cs, gt, ph, ge, gk, gv, bp', ok', ov', ob) → wpY_bind post ((nI sc), ycl, yw, (nI b), xst, ym, ya, ys, yk, yv, yc, yt, rk, rv, kY, nY, en, ln, pr, sp, pk, pv, th, ss, po, so, cy, cb, cs, gt, ph, ge, gk, gv, bp, ok, ov, ob) (nI w) (nI j) tk o) := by
  have v8 : vp_in (nI j) 8 := vp_in_nI hj (by decide)
  have cj : (nI j).toNatClampNeg = j := nI_clamp (by omega)
  have cs : (nI sc).toNatClampNeg = sc := nI_clamp (by omega)
  have cd : (nI d).toNatClampNeg = d := nI_clamp (by omega)
  have cw : (nI w).toNatClampNeg = w := nI_clamp (by omega)
  by_cases hs : sp j = 0
  · have e32 : (32 : Int32) + nI sc = nI (32 + sc) := nI_add 32 sc
    refine ⟨pl, upd pk (32 + sc) yk, upd pv (32 + sc) yv, upd ss sc (nI j), vp_updL sv sc xg, upd so sc o, upd po sc (nI (32 + sc)), kp, kv, bp, ok, ov, sc + 1, nI sc, bl_So_push So ho hj hs, bl_Po_sc P sc yk yv, bl_Vo_set V sc (fun i h1 h2 => by omega) (bl_vg_r hg), by omega, by omega, Or.inr ⟨sc, by omega, rfl⟩, Or.inl ⟨k1, k2⟩, fun _ _ => ⟨rfl, rfl⟩, fun _ _ => ⟨rfl, rfl, rfl⟩, fun post hp => ?_, fun post hp => ?_⟩
    · have i3 : vp_in (nI sc) 300 := vp_in_nI hsc (by decide)
      refine ⟨v8, ?_⟩
      rw [cj, cs]
      exact br_t hs ⟨i3, nm_e ⟨i3, nm_e ⟨i3, nm_e (nm_r (nI_1 sc) hp)⟩⟩⟩
    · have i3 : vp_in (nI sc) 310 := vp_in_nI (by omega) (by decide)
      have i4 : vp_in (nI (32 + sc)) 340 := vp_in_nI (by omega) (by decide)
      refine ⟨v8, ?_⟩
      rw [cj, cs, e32]
      refine br_t hs ⟨i3, nm_e ⟨i3, nm_e ⟨i3, nm_e ⟨i4, nm_r (e' := upd pk (32 + sc) yk) (by rw [nI_clamp (by omega)]) ⟨i4, nm_r (e' := upd pv (32 + sc) yv) (by rw [nI_clamp (by omega)]) (nm_r (nI_1 sc) hp)⟩⟩⟩⟩⟩
  · obtain ⟨p, hp0, ep⟩ := bl_pp (th := th) hj hb
    have i3 : vp_in (nI p) 32 := vp_in_nI hp0 (by decide)
    have i4 : vp_in (nI p) 340 := vp_in_nI (by omega) (by decide)
    have cp : (nI p).toNatClampNeg = p := nI_clamp (by omega)
    refine ⟨vp_updL pl p xg, upd pk p yk, upd pv p yv, ss, sv, so, po, upd kp d (nI p), vp_updL kv d (pl p), upd bp w (nI p), upd ok w (pk p), upd ov w (pv p), sc, o, So, bl_Po_set P p (bl_vg_r hg), bl_Vo_pl V hp0 _ _, by omega, by omega, ho, Or.inr ⟨p, hp0, pk_us, pk_us, ?_⟩, fun i hi => ⟨pk_un hi, pk_uLn hi⟩, fun i hi => ⟨pk_un hi, pk_un hi, pk_un hi⟩, fun post hp => ?_, fun post hp => ?_⟩
    · rw [pk_uLs, pk_us, pk_us]; exact P p hp0
    · have i5 : vp_in (nI (d + 1) - 1) 300 := by rw [nI_pred]; exact vp_in_nI hd (by decide)
      refine ⟨v8, ?_⟩
      rw [cj]
      refine br_f hs (bl_x_pp hj hb ?_)
      rw [ep]
      refine ⟨i5, nm_r (e' := upd kp d (nI p)) (by rw [nI_pred, cd]) ⟨i3, i5, nm_r (e' := vp_updL kv d (pl p)) (by rw [nI_pred, cd, cp]) ⟨i3, nm_r (e' := vp_updL pl p xg) (by rw [cp]) hp⟩⟩⟩
    · have i5 : vp_in (nI w) 320 := vp_in_nI hw (by decide)
      refine ⟨v8, ?_⟩
      rw [cj]
      refine br_f hs (bl_y_pp hj hb ?_)
      rw [ep]
      refine ⟨i5, nm_r (e' := upd bp w (nI p)) (by rw [cw]) ⟨i4, i5, nm_r (e' := upd ok w (pk p)) (by rw [cw, cp]) ⟨i4, i5, nm_r (e' := upd ov w (pv p)) (by rw [cw, cp]) ⟨i4, nm_r (e' := upd pk p yk) (by rw [cp]) ⟨i4, nm_r (e' := upd pv p yv) (by rw [cp]) hp⟩⟩⟩⟩⟩
end
