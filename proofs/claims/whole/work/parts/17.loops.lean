/-! the loops of run -/
def bl_xl (post : Int32 → SX → Prop) (n i : Nat) (u : SX) : Prop := match u with
  | (dl, lr, lc, xst, xd, xcl, xsc, xm, xa, xs, xb, xg, xe, kX, vX, df, pr, sp, pl, th, fc, fs, fb, fd, fv, fe, kp, kv, cc, cs, ss, sv, so) => wX_run_16 post n (nI i) dl lr lc xst xd xcl xsc xm xa xs xb xg xe kX vX df pr sp pl th fc fs fb fd fv fe kp kv cc cs ss sv so
def bl_xz (post : Int32 → SX → Prop) (u : SX) : Prop := match u with
  | (dl, lr, lc, xst, xd, xcl, xsc, xm, xa, xs, xb, xg, xe, kX, vX, df, pr, sp, pl, th, fc, fs, fb, fd, fv, fe, kp, kv, cc, cs, ss, sv, so) => wX_run_75 post dl lr lc xst xd xcl xsc xm xa xs xb xg xe kX vX df pr sp pl th fc fs fb fd fv fe kp kv cc cs ss sv so
def bl_yl (post : Int32 → SY → Prop) (n : Nat) (v : SY) : Prop := match v with
  | (yen, ycl, yw, xb, xst, ym, ya, ys, yk, yv, yc, yt, rk, rv, kY, nY, en, ln, pr, sp, pk, pv, th, ss, po, so, cy, cb, cs, gt, ph, ge, gk, gv, bp, ok, ov, ob) => wY_run_63 post n 1 yen ycl yw xb xst ym ya ys yk yv yc yt rk rv kY nY en ln pr sp pk pv th ss po so cy cb cs gt ph ge gk gv bp ok ov ob
def bl_yz (post : Int32 → SY → Prop) (v : SY) : Prop := match v with
  | (yen, ycl, yw, xb, xst, ym, ya, ys, yk, yv, yc, yt, rk, rv, kY, nY, en, ln, pr, sp, pk, pv, th, ss, po, so, cy, cb, cs, gt, ph, ge, gk, gv, bp, ok, ov, ob) => ((ym = 0 → (∃ n : Nat, wY_run_187 post yen ycl yw xb xst ym ya ys yk yv yc yt yk yv n 0 kY nY en ln pr sp pk pv th ss po so cy cb cs gt ph ge gk gv bp ok ov ob)) ∧ (¬ ym = 0 → (∃ n : Nat, wY_run_187 post yen ycl yw xb xst ym ya ys yk yv yc yt 2 yv n 0 kY nY en ln pr sp pk pv th ss po so cy cb cs gt ph ge gk gv bp ok ov ob)))
def bl_Fi (L : Nat → Nat) (u : SX) (v : SY) : Prop := match u, v with
  | (dl, lr, lc, xst, xd, xcl, xsc, xm, xa, xs, xb, xg, xe, kX, vX, df, pr, sp, pl, th, fc, fs, fb, fd, fv, fe, kp, kv, cc, cs, ss, sv, so), (yen, ycl, yw, xb', xst', ym, ya, ys, yk, yv, yc, yt, rk, rv, kY, nY, en, ln, pr', sp', pk, pv, th', ss', po, so', cy, cb, cs', gt, ph, ge, gk, gv, bp, ok, ov, ob) => (pr' = pr ∧ sp' = sp ∧ th' = th ∧ ss' = ss ∧ so' = so ∧ cs' = cs ∧ xst' = xst) ∧ ∃ cl, cl < 1000 ∧ bl_Cf L dl kX vX df pr sp kY nY en ln ∧ bl_Po cl pl pk pv ∧ ((xe = 0 ∧ ym = 0 ∧ bl_vg cl xg yk yv) ∨ (∃ c, 1 ≤ c ∧ c ≤ 4 ∧ xe = nI c ∧ ym = 2 ∧ yc = nI c) ∨ (xe = 5 ∧ ym = 3))
section
variable {dl lc xst xd xcl xsc xm xa xs xb xe yen ycl yw ym ya ys yk yv yc yt rk rv : Int32}
variable {lr xg : Int64}
variable {kX vX df pr sp th fc fs fb fd fe kp cc cs ss so kY nY en ln pk pv po cy cb gt ph ge gk gv bp ok ov ob : Nat → Int32}
variable {pl fv kv sv : Nat → Int64}
variable {L : Nat → Nat} {q d h sc cl st s r t m m2 p j b w e : Nat}
variable {yb : Int32} {i n : Nat}
theorem bl_xE {u' : SX} (hi : i < 1000000) (hX : ∀ post : SX → Prop, post u' → wpX_enterToken post (dl, lr, lc, xst, xd, xcl, xsc, 0, xa, xs, xb, xg, xe, kX, vX, df, pr, sp, pl, th, fc, fs, fb, fd, fv, fe, kp, kv, cc, cs, ss, sv, so)) {post : Int32 → SX → Prop} (h : bl_xl post n (i + 1) u') : bl_xl post (n + 1) i (dl, lr, lc, xst, xd, xcl, xsc, 0, xa, xs, xb, xg, xe, kX, vX, df, pr, sp, pl, th, fc, fs, fb, fd, fv, fe, kp, kv, cc, cs, ss, sv, so) := by
  obtain ⟨dl', lr', lc', xst', xd', xcl', xsc', xm', xa', xs', xb', xg', xe', kX', vX', df', pr', sp', pl', th', fc', fs', fb', fd', fv', fe', kp', kv', cc', cs', ss', sv', so'⟩ := u'
  exact br_f (nI_ge (b := 1000000) (by omega) (by decide)) (br_t rfl (br_t rfl (hX _ (nm_r (nI_1 i) h))))
theorem bl_xG {u' : SX} (hi : i < 1000000) (hd : d + 1 < 1000) (hX : ∀ post : SX → Prop, post u' → wpX_resumeFrame post (dl, lr, lc, xst, (nI (d + 1)), xcl, xsc, 1, xa, xs, xb, xg, xe, kX, vX, df, pr, sp, pl, th, fc, fs, fb, fd, fv, fe, kp, kv, cc, cs, ss, sv, so)) {post : Int32 → SX → Prop} (h : bl_xl post n (i + 1) u') : bl_xl post (n + 1) i (dl, lr, lc, xst, (nI (d + 1)), xcl, xsc, 1, xa, xs, xb, xg, xe, kX, vX, df, pr, sp, pl, th, fc, fs, fb, fd, fv, fe, kp, kv, cc, cs, ss, sv, so) := by
  obtain ⟨dl', lr', lc', xst', xd', xcl', xsc', xm', xa', xs', xb', xg', xe', kX', vX', df', pr', sp', pl', th', fc', fs', fb', fd', fv', fe', kp', kv', cc', cs', ss', sv', so'⟩ := u'
  exact br_f (nI_ge (b := 1000000) (by omega) (by decide)) (br_f (by decide) (br_f (nI_nle (by omega) (by omega)) (br_f (by decide) (br_t rfl (hX _ (nm_r (nI_1 i) h))))))
theorem bl_xN {u' : SX} (hi : i < 1000000) (hd : d + 1 < 1000) (hX : ∀ post : SX → Prop, post u' → wpX_unwindFrame post (dl, lr, lc, xst, (nI (d + 1)), xcl, xsc, 2, xa, xs, xb, xg, xe, kX, vX, df, pr, sp, pl, th, fc, fs, fb, fd, fv, fe, kp, kv, cc, cs, ss, sv, so)) {post : Int32 → SX → Prop} (h : bl_xl post n (i + 1) u') : bl_xl post (n + 1) i (dl, lr, lc, xst, (nI (d + 1)), xcl, xsc, 2, xa, xs, xb, xg, xe, kX, vX, df, pr, sp, pl, th, fc, fs, fb, fd, fv, fe, kp, kv, cc, cs, ss, sv, so) := by
  obtain ⟨dl', lr', lc', xst', xd', xcl', xsc', xm', xa', xs', xb', xg', xe', kX', vX', df', pr', sp', pl', th', fc', fs', fb', fd', fv', fe', kp', kv', cc', cs', ss', sv', so'⟩ := u'
  exact br_f (nI_ge (b := 1000000) (by omega) (by decide)) (br_f (by decide) (br_f (nI_nle (by omega) (by omega)) (br_f (by decide) (br_f (by decide) (hX _ (nm_r (nI_1 i) h))))))
theorem bl_xO (hi : i < 1000000) (hm : ¬ xm = 0) {post : Int32 → SX → Prop} (h : bl_xz post (dl, lr, lc, xst, (nI 0), xcl, xsc, xm, xa, xs, xb, xg, xe, kX, vX, df, pr, sp, pl, th, fc, fs, fb, fd, fv, fe, kp, kv, cc, cs, ss, sv, so)) : bl_xl post (n + 1) i (dl, lr, lc, xst, (nI 0), xcl, xsc, xm, xa, xs, xb, xg, xe, kX, vX, df, pr, sp, pl, th, fc, fs, fb, fd, fv, fe, kp, kv, cc, cs, ss, sv, so) :=
  br_f (nI_ge (b := 1000000) (by omega) (by decide)) (br_f hm (br_t (by decide) h))
theorem bl_yE {v' : SY} (hY : ∀ post : SY → Prop, post v' → wpY_evaluate post (yen, ycl, yw, xb, xst, 1, ya, ys, yk, yv, yc, yt, rk, rv, kY, nY, en, ln, pr, sp, pk, pv, th, ss, po, so, cy, cb, cs, gt, ph, ge, gk, gv, bp, ok, ov, ob)) {post : Int32 → SY → Prop} (h : bl_yl post n v') : bl_yl post (n + 1) (yen, ycl, yw, xb, xst, 1, ya, ys, yk, yv, yc, yt, rk, rv, kY, nY, en, ln, pr, sp, pk, pv, th, ss, po, so, cy, cb, cs, gt, ph, ge, gk, gv, bp, ok, ov, ob) := by
  obtain ⟨yen', ycl', yw', xb', xst', ym', ya', ys', yk', yv', yc', yt', rk', rv', kY', nY', en', ln', pr', sp', pk', pv', th', ss', po', so', cy', cb', cs', gt', ph', ge', gk', gv', bp', ok', ov', ob'⟩ := v'
  exact br_f (by decide) (br_t rfl (hY _ h))
theorem bl_yG {v' : SY} (hh : h + 1 < 1000) (hY : ∀ post : SY → Prop, post v' → wpY_give post (yen, ycl, (nI (h + 1)), xb, xst, 0, ya, ys, yk, yv, yc, yt, rk, rv, kY, nY, en, ln, pr, sp, pk, pv, th, ss, po, so, cy, cb, cs, gt, ph, ge, gk, gv, bp, ok, ov, ob)) {post : Int32 → SY → Prop} (h' : bl_yl post n v') : bl_yl post (n + 1) (yen, ycl, (nI (h + 1)), xb, xst, 0, ya, ys, yk, yv, yc, yt, rk, rv, kY, nY, en, ln, pr, sp, pk, pv, th, ss, po, so, cy, cb, cs, gt, ph, ge, gk, gv, bp, ok, ov, ob) := by
  obtain ⟨yen', ycl', yw', xb', xst', ym', ya', ys', yk', yv', yc', yt', rk', rv', kY', nY', en', ln', pr', sp', pk', pv', th', ss', po', so', cy', cb', cs', gt', ph', ge', gk', gv', bp', ok', ov', ob'⟩ := v'
  exact br_f (by decide) (br_f (by decide) (br_t rfl (br_f (nI_nle (by omega) (by omega)) (hY _ h'))))
theorem bl_yN {v' : SY} (hh : h + 1 < 1000) (hY : ∀ post : SY → Prop, post v' → wpY_end post (yen, ycl, (nI (h + 1)), xb, xst, 2, ya, ys, yk, yv, yc, yt, rk, rv, kY, nY, en, ln, pr, sp, pk, pv, th, ss, po, so, cy, cb, cs, gt, ph, ge, gk, gv, bp, ok, ov, ob)) {post : Int32 → SY → Prop} (h' : bl_yl post n v') : bl_yl post (n + 1) (yen, ycl, (nI (h + 1)), xb, xst, 2, ya, ys, yk, yv, yc, yt, rk, rv, kY, nY, en, ln, pr, sp, pk, pv, th, ss, po, so, cy, cb, cs, gt, ph, ge, gk, gv, bp, ok, ov, ob) := by
  obtain ⟨yen', ycl', yw', xb', xst', ym', ya', ys', yk', yv', yc', yt', rk', rv', kY', nY', en', ln', pr', sp', pk', pv', th', ss', po', so', cy', cb', cs', gt', ph', ge', gk', gv', bp', ok', ov', ob'⟩ := v'
  exact br_f (by decide) (br_f (by decide) (br_f (by decide) (br_t rfl (br_f (nI_nle (by omega) (by omega)) (hY _ h')))))
theorem bl_yO0 {post : Int32 → SY → Prop} (h : bl_yz post (yen, ycl, (nI 0), xb, xst, 0, ya, ys, yk, yv, yc, yt, rk, rv, kY, nY, en, ln, pr, sp, pk, pv, th, ss, po, so, cy, cb, cs, gt, ph, ge, gk, gv, bp, ok, ov, ob)) : bl_yl post (n + 2) (yen, ycl, (nI 0), xb, xst, 0, ya, ys, yk, yv, yc, yt, rk, rv, kY, nY, en, ln, pr, sp, pk, pv, th, ss, po, so, cy, cb, cs, gt, ph, ge, gk, gv, bp, ok, ov, ob) :=
  br_f (by decide) (br_f (by decide) (br_t rfl (br_t (by decide) (br_f (by decide) (br_t rfl ⟨1, br_t (by decide) h⟩)))))
theorem bl_yO2 {post : Int32 → SY → Prop} (h : bl_yz post (yen, ycl, (nI 0), xb, xst, 2, ya, ys, yk, yv, yc, yt, rk, rv, kY, nY, en, ln, pr, sp, pk, pv, th, ss, po, so, cy, cb, cs, gt, ph, ge, gk, gv, bp, ok, ov, ob)) : bl_yl post (n + 2) (yen, ycl, (nI 0), xb, xst, 2, ya, ys, yk, yv, yc, yt, rk, rv, kY, nY, en, ln, pr, sp, pk, pv, th, ss, po, so, cy, cb, cs, gt, ph, ge, gk, gv, bp, ok, ov, ob) :=
  br_f (by decide) (br_f (by decide) (br_f (by decide) (br_t rfl (br_t (by decide) (br_t rfl ⟨1, br_t (by decide) h⟩)))))
theorem bl_yO3 {post : Int32 → SY → Prop} (h : ∃ m, wY_run_130 post m yen ycl yw xb xst 3 ya ys yk yv yc yt rk rv kY nY en ln pr sp pk pv th ss po so cy cb cs gt ph ge gk gv bp ok ov ob) : bl_yl post (n + 2) (yen, ycl, yw, xb, xst, 3, ya, ys, yk, yv, yc, yt, rk, rv, kY, nY, en, ln, pr, sp, pk, pv, th, ss, po, so, cy, cb, cs, gt, ph, ge, gk, gv, bp, ok, ov, ob) :=
  br_f (by decide) (br_f (by decide) (br_f (by decide) (br_f (by decide) (br_t rfl h))))
theorem bl_x_ul {pl' : Nat → Int64} (d3 : d < 300) (p240 : p < 240) (hfc : fc d = nI p) (hc : ∀ post : SX → Prop, post (dl, lr, lc, xst, (nI d), xcl, xsc, xm, xa, xs, (fb d), xg, 5, kX, vX, df, pr, sp, pl', th, fc, fs, fb, fd, fv, fe, kp, kv, cc, cs, ss, sv, so) → wpX_closeFrame post (dl, lr, lc, xst, (nI (d + 1)), xcl, xsc, xm, xa, xs, xb, xg, 5, kX, vX, df, pr, sp, pl, th, fc, fs, fb, fd, fv, fe, kp, kv, cc, cs, ss, sv, so)) (post : SX → Prop) (hp : post (dl, lr, lc, xst, (nI d), xcl, xsc, xm, xa, xs, (fb d), xg, 5, kX, vX, df, pr, sp, pl', th, fc, fs, fb, fd, fv, fe, kp, kv, cc, cs, ss, sv, so)) : wpX_unwindFrame post (dl, lr, lc, xst, (nI (d + 1)), xcl, xsc, xm, xa, xs, xb, xg, 5, kX, vX, df, pr, sp, pl, th, fc, fs, fb, fd, fv, fe, kp, kv, cc, cs, ss, sv, so) := by
  have cd : (nI d).toNatClampNeg = d := nI_clamp (by omega)
  have cp : (nI p).toNatClampNeg = p := nI_clamp (by omega)
  have i3 : vp_in (nI d) 300 := vp_in_nI d3 (by decide)
  exact nm_r (nI_pred d) ⟨i3, nm_r (e' := nI p) (by rw [cd, hfc]) ⟨vp_in_nI p240 (by decide), nm_r (e' := kX p) (by rw [cp]) ⟨i3, br_c (fun _ => br_t rfl (hc _ hp)) (fun _ => br_t rfl (hc _ hp))⟩⟩⟩
theorem bl_close2 (hd : d < 300) (hw : w < 320) (B : bl_bd cl (kp d) (kv d) (bp w) (ok w) (ov w)) (P : bl_Po cl pl pk pv) (V : bl_Vo cl sc sv pk pv) : ∃ (pl' : Nat → Int64) (pk' pv' bp' : Nat → Int32), bl_Po cl pl' pk' pv' ∧ bl_Vo cl sc sv pk' pv' ∧ (∀ i, i ≠ w → bp' i = bp i)
    ∧ (∀ post : SX → Prop, post (dl, lr, lc, xst, (nI d), xcl, xsc, xm, xa, xs, (fb d), xg, xe, kX, vX, df, pr, sp, pl', th, fc, fs, fb, fd, fv, fe, kp, kv, cc, cs, ss, sv, so) → wpX_closeFrame post (dl, lr, lc, xst, (nI (d + 1)), xcl, xsc, xm, xa, xs, xb, xg, xe, kX, vX, df, pr, sp, pl, th, fc, fs, fb, fd, fv, fe, kp, kv, cc, cs, ss, sv, so)) ∧ (∀ post : SY → Prop, post (yen, ycl, yw, yb, xst, ym, ya, ys, yk, yv, yc, yt, rk, rv, kY, nY, en, ln, pr, sp, pk', pv', th, ss, po, so, cy, cb, cs, gt, ph, ge, gk, gv, bp', ok, ov, ob) → wpY_giveBack post (yen, ycl, yw, yb, xst, ym, ya, ys, yk, yv, yc, yt, rk, rv, kY, nY, en, ln, pr, sp, pk, pv, th, ss, po, so, cy, cb, cs, gt, ph, ge, gk, gv, bp, ok, ov, ob) (nI w)) := by
  rcases B with ⟨b1, b2⟩ | ⟨p, b0, b1, b2, b3⟩
  · exact ⟨pl, pk, pv, bp, P, V, fun _ _ => rfl, fun post hp => bl_x_cl1 hd b1 hp, fun post hp => bl_y_gb1 hw b2 hp⟩
  · exact ⟨vp_updL pl p (kv d), upd pk p (ok w), upd pv p (ov w), upd bp w (-1), bl_Po_set P p b3, bl_Vo_pl V b0 _ _, fun i hi => pk_un hi, fun post hp => bl_x_cl2 hd b1 b0 hp, fun post hp => bl_y_gb2 hw b2 b0 hp⟩
theorem bl_long (h48 : ∀ r, r < 5 → L r ≤ 48) : ∀ (d h : Nat) (xb : Int32) (s : Nat) (pl : Nat → Int64) (pk pv bp : Nat → Int32), d ≤ 300 → bl_St kX vX L sc cl (bl_x fc fs fb fd fv fe kp kv) (bl_y gt ph ge gk gv bp ok ov ob) d h xb s → bl_Po cl pl pk pv → bl_Vo cl sc sv pk pv →
    ∃ (pl' : Nat → Int64) (pk' pv' bp' : Nat → Int32) (xb' : Int32), bl_Po cl pl' pk' pv' ∧ (∀ (post : Int32 → SX → Prop) (n i : Nat), i + d < 1000000 → d < n → bl_xz post (dl, lr, lc, xst, (nI 0), xcl, xsc, 2, xa, xs, xb', xg, 5, kX, vX, df, pr, sp, pl', th, fc, fs, fb, fd, fv, fe, kp, kv, cc, cs, ss, sv, so) → bl_xl post n i (dl, lr, lc, xst, (nI d), xcl, xsc, 2, xa, xs, xb, xg, 5, kX, vX, df, pr, sp, pl, th, fc, fs, fb, fd, fv, fe, kp, kv, cc, cs, ss, sv, so)) ∧ (∀ post : Int32 → SY → Prop, bl_yz post (yen, ycl, (nI 0), yb, xst, 3, ya, ys, yk, yv, yc, yt, rk, rv, kY, nY, en, ln, pr, sp, pk', pv', th, ss, po, so, cy, cb, cs, gt, ph, ge, gk, gv, bp', ok, ov, ob) → ∃ m, wY_run_130 post m yen ycl (nI h) yb xst 3 ya ys yk yv yc yt rk rv kY nY en ln pr sp pk pv th ss po so cy cb cs gt ph ge gk gv bp ok ov ob) := by
  intro d
  induction d with
  | zero =>
    intro h xb s pl pk pv bp _ S P V
    have h0 : h = 0 := S.1
    subst h0
    refine ⟨pl, pk, pv, bp, xb, P, fun post n i hi hn hz => ?_, fun post hz => ⟨1, br_t (by decide) hz⟩⟩
    obtain ⟨n, rfl⟩ : ∃ n', n = n' + 1 := ⟨n - 1, by omega⟩
    exact bl_xO (by omega) (by decide) hz
  | succ d ih =>
    intro h xb s pl pk pv bp hd S P V
    rcases S with ⟨s', e, hi, S⟩ | ⟨h', s', w, rfl, e, hl, S⟩
    · obtain ⟨r, t, hr, ht, hfc, hk, hfd, hkp, hfb⟩ := hi
      have l48 := h48 r hr
      obtain ⟨pl', pk', pv', bp', xb', P', hX, hY⟩ := ih h xb s' pl pk pv bp (by omega) S P V
      refine ⟨pl', pk', pv', bp', xb', P', fun post n i hi hn hz => ?_, hY⟩
      obtain ⟨n, rfl⟩ : ∃ n', n = n' + 1 := ⟨n - 1, by omega⟩
      have w := hX post n (i + 1) (by omega) (by omega) hz
      rw [← hfb] at w ⊢
      exact bl_xN (by omega) (by omega) (bl_x_ul (pl' := pl) (p := 48 * r + t) (by omega) (by omega) hfc (fun post hp => bl_x_cl1 (by omega) hkp hp)) w
    · have hh := bl_St_le _ _ _ _ S
      obtain ⟨r, t, e, hr, ht, hfc, hgt, hge, hfs, hob, hfd, hwt, hb, hph⟩ := hl
      have l48 := h48 r hr
      obtain ⟨hbd, _⟩ := bl_ph_bd hph
      obtain ⟨pl1, pk1, pv1, bp1, P1, V1, hbp, cX, cY⟩ := bl_close2 (dl := dl) (lr := lr) (lc := lc) (xst := xst) (xcl := xcl) (xsc := xsc) (xm := 2) (xa := xa) (xs := xs) (xb := xb) (xg := xg) (xe := 5) (kX := kX) (vX := vX) (df := df) (pr := pr) (sp := sp) (pl := pl) (th := th) (fc := fc) (fs := fs) (fb := fb) (fd := fd) (fv := fv) (fe := fe) (kp := kp) (kv := kv) (cc := cc) (cs := cs) (ss := ss) (sv := sv) (so := so) (yen := yen) (ycl := ycl) (yw := nI h') (ym := 3) (ya := ya) (ys := ys) (yk := yk) (yv := yv) (yc := yc) (yt := yt) (rk := rk) (rv := rv) (kY := kY) (nY := nY) (en := en) (ln := ln) (pk := pk) (pv := pv) (po := po) (cy := cy) (cb := cb) (gt := gt) (ph := ph) (ge := ge) (gk := gk) (gv := gv) (bp := bp) (ok := ok) (ov := ov) (ob := ob) (yb := yb) (w := h') (by omega) (by omega) hbd P V
      have S1 : bl_St kX vX L sc cl (bl_x fc fs fb fd fv fe kp kv) (bl_y gt ph ge gk gv (bp1) ok ov ob) d h' (fb d) s' := bl_St_cg (Nat.le_refl _) (Nat.le_refl _) d h' _ s' (fun _ _ => rfl) (fun i hi => by simp only [bl_y, hbp i (by omega)]) S
      obtain ⟨pl', pk', pv', bp', xb', P', hX, hY⟩ := ih h' (fb d) s' pl1 pk1 pv1 bp1 (by omega) S1 P1 V1
      refine ⟨pl', pk', pv', bp', xb', P', fun post n i hi hn hz => ?_, fun post hz => ?_⟩
      · obtain ⟨n, rfl⟩ : ∃ n', n = n' + 1 := ⟨n - 1, by omega⟩
        exact bl_xN (by omega) (by omega) (bl_x_ul (p := 48 * r + t) (by omega) (by omega) hfc cX) (hX post n (i + 1) (by omega) (by omega) hz)
      · obtain ⟨m, hm⟩ := hY post hz
        exact ⟨m + 1, br_f (nI_nle (by omega) (by omega)) (nm_r (nI_pred h') (cY _ hm))⟩
end
theorem bl_St_s {kX vX : Nat → Int32} {L : Nat → Nat} {sc cl : Nat} {x : Nat → bl_XF} {y : Nat → bl_YF} : ∀ (d h : Nat) (b : Int32) (s : Nat), bl_St kX vX L sc cl x y d h b s → d ≤ s := by
  intro d
  induction d with
  | zero => intro h b s H; omega
  | succ d ih =>
    intro h b s H
    rcases H with ⟨s', e, hi, H⟩ | ⟨h', s', w, e1, e2, hl, H⟩
    · have := ih _ _ _ H; omega
    · have h0 := ih _ _ _ H
      generalize x d = f at hl
      generalize y h' = g at hl
      obtain ⟨fc, fs, fb, fd, fv, fe, kp, kv⟩ := f
      obtain ⟨gt, ph, ge, gk, gv, bp, ok, ov, ob⟩ := g
      obtain ⟨r, t, e, a1, a2, a3, a4, a5, a6, a7, a8, a9, a10, a11⟩ := hl
      obtain ⟨_, he2, _⟩ := bl_ph_bd a11
      have : 1 ≤ w := by rw [a9]; unfold bl_wt; omega
      omega
theorem bl_main {L : Nat → Nat} : ∀ (q : Nat) (u : SX) (v : SY), bl_RR L q u v → ∃ uf vf, bl_Fi L uf vf ∧ (∀ (post : Int32 → SX → Prop) (n i : Nat), i + q < 1000000 → q < n → bl_xz post uf → bl_xl post n i u) ∧ (∀ (post : Int32 → SY → Prop) (n : Nat), q + 1 < n → bl_yz post vf → bl_yl post n v) := by
  intro q
  induction q using Nat.strongRecOn with
  | ind q ih =>
  intro u v H
  obtain ⟨dl, lr, lc, xst, xd, xcl, xsc, xm, xa, xs, xb, xg, xe, kX, vX, df, pr, sp, pl, th, fc, fs, fb, fd, fv, fe, kp, kv, cc, cs, ss, sv, so⟩ := u
  obtain ⟨yen, ycl, yw, xb', xst', ym, ya, ys, yk, yv, yc, yt, rk, rv, kY, nY, en, ln, pr', sp', pk, pv, th', ss', po, so', cy, cb, cs', gt, ph, ge, gk, gv, bp, ok, ov, ob⟩ := v
  obtain ⟨⟨rfl, rfl, rfl, rfl, rfl, rfl, rfl, rfl⟩, d, h, sc, cl, st, s, ⟨rfl, rfl, rfl, rfl, rfl, rfl, rfl⟩, C, ⟨hd, hcl, hst, hw⟩, So, Co, P, V, M⟩ := H
  rcases M with ⟨rfl, rfl, rfl, hs, ⟨r, t, hr, ht, rfl, rfl⟩, S, rfl⟩ | ⟨rfl, rfl, rfl, hg, S, rfl⟩ | ⟨rfl, rfl, he, S, rfl⟩ | ⟨rfl, rfl, rfl, S, rfl⟩
  · obtain ⟨u', v', q', hq, R, hX, hY⟩ := bl_TE C hcl hst So Co P V hd hw S hs hr ht
    obtain ⟨uf, vf, F, wX, wY⟩ := ih q' hq u' v' R
    refine ⟨uf, vf, F, fun post n i hi hn hz => ?_, fun post n hn hz => ?_⟩
    · obtain ⟨n, rfl⟩ : ∃ n', n = n' + 1 := ⟨n - 1, by omega⟩
      exact bl_xE (by omega) hX (wX post n (i + 1) (by omega) (by omega) hz)
    · obtain ⟨n, rfl⟩ : ∃ n', n = n' + 1 := ⟨n - 1, by omega⟩
      exact bl_yE hY (wY post n (by omega) hz)
  · cases d with
    | zero =>
      have h0 : h = 0 := S.1
      subst h0
      refine ⟨(dl, lr, lc, (nI st), (nI 0), (nI cl), (nI sc), 1, xa, xs, xb', xg, 0, kX, vX, df, pr', sp', pl, th', fc, fs, fb, fd, fv, fe, kp, kv, cc, cs', ss', sv, so'), ((nI sc), (nI cl), (nI 0), xb', (nI st), 0, ya, ys, yk, yv, yc, yt, rk, rv, kY, nY, en, ln, pr', sp', pk, pv, th', ss', po, so', cy, cb, cs', gt, ph, ge, gk, gv, bp, ok, ov, ob), ⟨⟨rfl, rfl, rfl, rfl, rfl, rfl, rfl⟩, cl, by omega, C, P, Or.inl ⟨rfl, rfl, hg⟩⟩, fun post n i hi hn hz => ?_, fun post n hn hz => ?_⟩
      · obtain ⟨n, rfl⟩ : ∃ n', n = n' + 1 := ⟨n - 1, by omega⟩
        exact bl_xO (by omega) (by decide) hz
      · obtain ⟨n, rfl⟩ : ∃ n', n = n' + 2 := ⟨n - 2, by omega⟩
        exact bl_yO0 hz
    | succ d =>
      rcases bl_TG C hcl hst So Co P V hd hw S hg with ⟨u', q', hq, R, hX⟩ | ⟨h', rfl, u', v', q', hq, R, hX, hY⟩
      · obtain ⟨uf, vf, F, wX, wY⟩ := ih q' hq u' _ R
        refine ⟨uf, vf, F, fun post n i hi hn hz => ?_, fun post n hn hz => wY post n (by omega) hz⟩
        obtain ⟨n, rfl⟩ : ∃ n', n = n' + 1 := ⟨n - 1, by omega⟩
        exact bl_xG (by omega) (by omega) hX (wX post n (i + 1) (by omega) (by omega) hz)
      · have hh := bl_St_le _ _ _ _ S
        obtain ⟨uf, vf, F, wX, wY⟩ := ih q' hq u' v' R
        refine ⟨uf, vf, F, fun post n i hi hn hz => ?_, fun post n hn hz => ?_⟩
        · obtain ⟨n, rfl⟩ : ∃ n', n = n' + 1 := ⟨n - 1, by omega⟩
          exact bl_xG (by omega) (by omega) hX (wX post n (i + 1) (by omega) (by omega) hz)
        · obtain ⟨n, rfl⟩ : ∃ n', n = n' + 1 := ⟨n - 1, by omega⟩
          exact bl_yG (by omega) hY (wY post n (by omega) hz)
  · cases d with
    | zero =>
      rcases S with S | ⟨d', s', e, _⟩
      · have h0 : h = 0 := S.1
        subst h0
        rcases he with ⟨c, c1, c2, rfl, rfl, rfl⟩ | ⟨t, _, _, _, _, ⟨i, p, hi, _⟩, _⟩
        · refine ⟨(dl, lr, lc, (nI st), (nI 0), (nI cl), (nI sc), 2, xa, xs, xb', xg, (nI c), kX, vX, df, pr', sp', pl, th', fc, fs, fb, fd, fv, fe, kp, kv, cc, cs', ss', sv, so'), ((nI sc), (nI cl), (nI 0), xb', (nI st), 2, ya, ys, yk, yv, (nI c), (-1), rk, rv, kY, nY, en, ln, pr', sp', pk, pv, th', ss', po, so', cy, cb, cs', gt, ph, ge, gk, gv, bp, ok, ov, ob), ⟨⟨rfl, rfl, rfl, rfl, rfl, rfl, rfl⟩, cl, by omega, C, P, Or.inr (Or.inl ⟨c, c1, c2, rfl, rfl, rfl⟩)⟩, fun post n i hi hn hz => ?_, fun post n hn hz => ?_⟩
          · obtain ⟨n, rfl⟩ : ∃ n', n = n' + 1 := ⟨n - 1, by omega⟩
            exact bl_xO (by omega) (by decide) hz
          · obtain ⟨n, rfl⟩ : ∃ n', n = n' + 2 := ⟨n - 2, by omega⟩
            exact bl_yO2 hz
        · omega
      · omega
    | succ d =>
      have hh : h ≤ d + 1 := by
        rcases S with S | ⟨d', s', e, _, _, S⟩
        · exact bl_St_le _ _ _ _ S
        · have := bl_St_le _ _ _ _ S; omega
      rcases bl_TN C hcl hst So Co P V hd hw S he with ⟨u', q', hq, R, hX⟩ | ⟨h', rfl, u', v', q', hq, R, hX, hY⟩
      · obtain ⟨uf, vf, F, wX, wY⟩ := ih q' hq u' _ R
        refine ⟨uf, vf, F, fun post n i hi hn hz => ?_, fun post n hn hz => wY post n (by omega) hz⟩
        obtain ⟨n, rfl⟩ : ∃ n', n = n' + 1 := ⟨n - 1, by omega⟩
        exact bl_xN (by omega) (by omega) hX (wX post n (i + 1) (by omega) (by omega) hz)
      · obtain ⟨uf, vf, F, wX, wY⟩ := ih q' hq u' v' R
        refine ⟨uf, vf, F, fun post n i hi hn hz => ?_, fun post n hn hz => ?_⟩
        · obtain ⟨n, rfl⟩ : ∃ n', n = n' + 1 := ⟨n - 1, by omega⟩
          exact bl_xN (by omega) (by omega) hX (wX post n (i + 1) (by omega) (by omega) hz)
        · obtain ⟨n, rfl⟩ : ∃ n', n = n' + 1 := ⟨n - 1, by omega⟩
          exact bl_yN (by omega) hY (wY post n (by omega) hz)
  · have sd : d ≤ s := bl_St_s _ _ _ _ S
    obtain ⟨pl', pk', pv', bp', xb1, P', hX, hY⟩ := bl_long C.1.1 d h _ s _ _ _ _ (by omega) S P V
    refine ⟨(dl, lr, lc, (nI st), (nI 0), (nI cl), (nI sc), 2, xa, xs, xb1, xg, 5, kX, vX, df, pr', sp', pl', th', fc, fs, fb, fd, fv, fe, kp, kv, cc, cs', ss', sv, so'), ((nI sc), (nI cl), (nI 0), xb', (nI st), 3, ya, ys, yk, yv, yc, yt, rk, rv, kY, nY, en, ln, pr', sp', pk', pv', th', ss', po, so', cy, cb, cs', gt, ph, ge, gk, gv, bp', ok, ov, ob), ⟨⟨rfl, rfl, rfl, rfl, rfl, rfl, rfl⟩, cl, by omega, C, P', Or.inr (Or.inr ⟨rfl, rfl⟩)⟩, fun post n i hi hn hz => hX post n i (by omega) (by omega) hz, fun post n hn hz => ?_⟩
    obtain ⟨n, rfl⟩ : ∃ n', n = n' + 2 := ⟨n - 2, by omega⟩
    exact bl_yO3 (hY post hz)
