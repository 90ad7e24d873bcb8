/-! run -/
theorem bl_fin {L : Nat → Nat} {u : SX} {v : SY} (F : bl_Fi L u v) : ∃ (a : Int32) (u' : SX) (v' : SY), i_Rel 0 u' v' ∧ (∀ post : Int32 → SX → Prop, post a u' → bl_xz post u) ∧ (∀ post : Int32 → SY → Prop, post a v' → bl_yz post v) := by
  obtain ⟨dl, lr, lc, xst, xd, xcl, xsc, xm, xa, xs, xb, xg, xe, kX, vX, df, pr, sp, pl, th, fc, fs, fb, fd, fv, fe, kp, kv, cc, cs, ss, sv, so⟩ := u
  obtain ⟨yen, ycl, yw, xb', xst', ym, ya, ys, yk, yv, yc, yt, rk, rv, kY, nY, en, ln, pr', sp', pk, pv, th', ss', po, so', cy, cb, cs', gt, ph, ge, gk, gv, bp, ok, ov, ob⟩ := v
  obtain ⟨⟨rfl, rfl, rfl, rfl, rfl, rfl, rfl⟩, cl, hc, C, P, M⟩ := F
  have f0 : narrow .boolean (.int 0) = .int 0 := rfl
  have f1 : narrow .boolean (.int 1) = .int 1 := rfl
  have g0 : fits .boolean (.int 0) = true := by decide
  have g1 : fits .boolean (.int 1) = true := by decide
  rcases M with ⟨rfl, rfl, hg⟩ | ⟨c, c1, c2, rfl, rfl, rfl⟩ | ⟨rfl, rfl⟩
  · rcases hg with ⟨rfl, rfl⟩ | ⟨rfl, n, hn, rfl, rfl⟩
    · exact ⟨0, (dl, yv.toInt64, 0, xst', xd, xcl, xsc, xm, xa, xs, xb, yv.toInt64, 0, kX, vX, df, pr', sp', (fun i => if i < 32 ∧ (20000000000 : Int64) ≤ pl i then 10000000000 else pl i), th', fc, fs, fb, fd, fv, fe, kp, kv, cc, cs', ss', sv, so'), (yen, ycl, yw, xb', xst', 0, ya, ys, 0, yv, yc, yt, 0, yv, kY, nY, en, ln, pr', sp', (fun i => if i < 32 ∧ pk i = 1 then 2 else pk i), pv, th', ss', po, so', cy, cb, cs', gt, ph, ge, gk, gv, bp, ok, ov, ob), ⟨⟨rfl, rfl, rfl, rfl, rfl, rfl, rfl⟩, L, C.2.2.2.2.1, C.2.2.2.2.2, C.1, fun r _ hr hl => C.2.1 r hr hl, ⟨C.2.2.1, C.2.2.2.1⟩, bl_Po_fin hc P, Or.inl ⟨rfl, rfl, rfl⟩⟩, fun post hp => br_t (bl_lt_int _) (br_t rfl (br_t rfl ⟨f0, g0, br_t rfl (br_t rfl (bl_x_fin hp))⟩)), fun post hp => br_t rfl (bl_y_fin (Or.inl ⟨rfl, rfl⟩) hp)⟩
    · exact ⟨0, (dl, 10000000000, 1, xst', xd, xcl, xsc, xm, xa, xs, xb, (20000000000 + lN n), 0, kX, vX, df, pr', sp', (fun i => if i < 32 ∧ (20000000000 : Int64) ≤ pl i then 10000000000 else pl i), th', fc, fs, fb, fd, fv, fe, kp, kv, cc, cs', ss', sv, so'), (yen, ycl, yw, xb', xst', 0, ya, ys, 1, (nI n), yc, yt, 1, (nI n), kY, nY, en, ln, pr', sp', (fun i => if i < 32 ∧ pk i = 1 then 2 else pk i), pv, th', ss', po, so', cy, cb, cs', gt, ph, ge, gk, gv, bp, ok, ov, ob), ⟨⟨rfl, rfl, rfl, rfl, rfl, rfl, rfl⟩, L, C.2.2.2.2.1, C.2.2.2.2.2, C.1, fun r _ hr hl => C.2.1 r hr hl, ⟨C.2.2.1, C.2.2.2.1⟩, bl_Po_fin hc P, Or.inr (Or.inl ⟨rfl, rfl, rfl⟩)⟩, fun post hp => br_f (bl_nlt_cl (by omega)) (br_t rfl (br_f (by decide) ⟨f1, g1, br_t rfl (br_f (by decide) (bl_x_fin hp))⟩)), fun post hp => br_t rfl (bl_y_fin (Or.inl ⟨rfl, rfl⟩) hp)⟩
  · have ne : ¬ nI c = 0 := nI_ne0 (by omega) (by omega)
    exact ⟨nI c, (dl, 10000000000, 0, xst', xd, xcl, xsc, xm, xa, xs, xb, xg, (nI c), kX, vX, df, pr', sp', (fun i => if i < 32 ∧ (20000000000 : Int64) ≤ pl i then 10000000000 else pl i), th', fc, fs, fb, fd, fv, fe, kp, kv, cc, cs', ss', sv, so'), (yen, ycl, yw, xb', xst', 2, ya, ys, yk, yv, (nI c), yt, 2, yv, kY, nY, en, ln, pr', sp', (fun i => if i < 32 ∧ pk i = 1 then 2 else pk i), pv, th', ss', po, so', cy, cb, cs', gt, ph, ge, gk, gv, bp, ok, ov, ob), ⟨⟨rfl, rfl, rfl, rfl, rfl, rfl, rfl⟩, L, C.2.2.2.2.1, C.2.2.2.2.2, C.1, fun r _ hr hl => C.2.1 r hr hl, ⟨C.2.2.1, C.2.2.2.1⟩, bl_Po_fin hc P, Or.inr (Or.inr ⟨rfl, rfl, rfl⟩)⟩, fun post hp => br_c (fun _ => br_f ne ⟨f0, g0, br_f ne (bl_x_fin hp)⟩) (fun _ => br_f ne ⟨f0, g0, br_f ne (bl_x_fin hp)⟩), fun post hp => br_f (by decide) (bl_y_fin (Or.inr (Or.inr ⟨rfl, rfl⟩)) hp)⟩
  · exact ⟨5, (dl, 10000000000, 0, xst', xd, xcl, xsc, xm, xa, xs, xb, xg, 5, kX, vX, df, pr', sp', (fun i => if i < 32 ∧ (20000000000 : Int64) ≤ pl i then 10000000000 else pl i), th', fc, fs, fb, fd, fv, fe, kp, kv, cc, cs', ss', sv, so'), (yen, ycl, yw, xb', xst', 3, ya, ys, yk, yv, yc, yt, 2, yv, kY, nY, en, ln, pr', sp', (fun i => if i < 32 ∧ pk i = 1 then 2 else pk i), pv, th', ss', po, so', cy, cb, cs', gt, ph, ge, gk, gv, bp, ok, ov, ob), ⟨⟨rfl, rfl, rfl, rfl, rfl, rfl, rfl⟩, L, C.2.2.2.2.1, C.2.2.2.2.2, C.1, fun r _ hr hl => C.2.1 r hr hl, ⟨C.2.2.1, C.2.2.2.1⟩, bl_Po_fin hc P, Or.inr (Or.inr ⟨rfl, rfl, rfl⟩)⟩, fun post hp => br_c (fun _ => br_f (by decide) ⟨f0, g0, br_f (by decide) (bl_x_fin hp)⟩) (fun _ => br_f (by decide) ⟨f0, g0, br_f (by decide) (bl_x_fin hp)⟩), fun post hp => br_f (by decide) (bl_y_fin (Or.inr (Or.inl ⟨rfl, rfl⟩)) hp)⟩
theorem i_vc_run {k : Nat} {u : SX} {v : SY} (I : i_Rel k u v) (hk : k + 3 ≤ 1536) : wpX_run (fun r u' => wpY_run (fun r' v' => r' = r ∧ i_Rel (k + 3) u' v') v) u := by
  obtain ⟨dl, lr, lc, xst, xd, xcl, xsc, xm, xa, xs, xb, xg, xe, kX, vX, df, pr, sp, pl, th, fc, fs, fb, fd, fv, fe, kp, kv, cc, cs, ss, sv, so⟩ := u
  obtain ⟨yen, ycl, yw, xb', xst', ym, ya, ys, yk, yv, yc, yt, rk, rv, kY, nY, en, ln, pr', sp', pk, pv, th', ss', po, so', cy, cb, cs', gt, ph, ge, gk, gv, bp, ok, ov, ob⟩ := v
  obtain ⟨⟨rfl, rfl, rfl, rfl, rfl, rfl, rfl⟩, L, B⟩ := I
  have J := B
  obtain ⟨b1, b2, b3, b4, b5, b6, b7⟩ := B
  subst b1
  have l0 := b3.1 0 (by omega)
  have hy : ∀ i, i < 48 → kY (192 + i) = kX i := by
    intro i hi
    have q := (b3.2.1 0 (by omega) i hi).1
    rw [show 48 * 0 + i = i from by omega] at q
    exact q
  have hy2 : ∀ i, i < 48 → nY (192 + i) = vX i := by
    intro i hi
    have q := (b3.2.1 0 (by omega) i hi).2
    rw [show 48 * 0 + i = i from by omega] at q
    exact q
  obtain ⟨b, hb, hX, hY⟩ := bl_isx (lr := lr) (lc := lc) (xst := xst') (xd := xd) (xcl := xcl) (xsc := xsc) (xm := xm) (xa := xa) (xs := xs) (xb := xb) (xg := xg) (xe := xe) (kX := kX) (vX := vX) (df := df) (pr := pr') (sp := sp') (pl := pl) (th := th') (fc := fc) (fs := fs) (fb := fb) (fd := fd) (fv := fv) (fe := fe) (kp := kp) (kv := kv) (cc := cc) (cs := cs') (ss := ss') (sv := sv) (so := so') (yen := yen) (ycl := ycl) (yw := yw) (ym := ym) (ya := ya) (ys := ys) (yk := yk) (yv := yv) (yc := yc) (yt := yt) (rk := rk) (rv := rv) (kY := kY) (nY := nY) (en := en) (ln := ln) (pk := pk) (pv := pv) (po := po) (cy := cy) (cb := cb) (gt := gt) (ph := ph) (ge := ge) (gk := gk) (gv := gv) (bp := bp) (ok := ok) (ov := ov) (ob := ob) (yb := xb') (n := L 0) b3.2.2 hy l0 b2
  unfold wpX_run
  refine hX _ ?_
  rcases hb with ⟨rfl, Vd⟩ | rfl
  · refine br_f (by decide) ?_
    have n0 : 0 < L 0 := by
      by_cases z : L 0 = 0
      · have := Vd.2
        rw [z] at this
        have e1 : pf_D (bl_rg kX 0) 0 = 1 := rfl
        omega
      · omega
    obtain ⟨en', T, U, W⟩ := bl_fe (kX := kX) (vX := vX) (r := 0) (n := L 0) (yen := yen) (ycl := ycl) (yw := yw) (xst := xst') (ym := ym) (ya := ya) (ys := ys) (yk := yk) (yv := yv) (yc := yc) (yt := yt) (rk := rk) (rv := rv) (kY := kY) (nY := nY) (en := en) (ln := ln) (pr := pr') (sp := sp') (pk := pk) (pv := pv) (th := th') (ss := ss') (po := po) (so := so') (cy := cy) (cb := cb) (cs := cs') (gt := gt) (ph := ph) (ge := ge) (gk := gk) (gv := gv) (bp := bp) (ok := ok) (ov := ov) (ob := ob) (yb := xb') b3.2.2 (by omega) l0 (fun i hi => (b3.2.1 0 (by omega) i (by omega)).1) Vd
    have C : bl_Cf L (nI (L 0)) kX vX df pr' sp' kY nY en' ln := by
      refine ⟨b3, fun r hr hl => ?_, b5.1, b5.2, rfl, b2⟩
      by_cases z : r = 0
      · subst z
        exact ⟨Vd, T⟩
      · refine bl_Re_cg (L := L) (kX := kX) (en := en) rfl (b3.1 r hr) (fun i hi => rfl) (fun i hi => ?_) (b4 r (by omega) hr hl)
        have := b3.1 r hr
        exact U (bl_yb r + i) (fun i' hi' => bl_yb_ne hr (by omega) z (by omega) (by omega))
    have R0 : ∃ q, q < 999999 ∧ bl_RR L q ((nI (L 0)), lr, lc, (nI 0), (nI 0), (nI 0), (nI 0), 0, (nI (48 * 0 + 0)), (-1), 0, xg, xe, kX, vX, df, pr', sp', pl, th', fc, fs, fb, fd, fv, fe, kp, kv, cc, cs', ss', sv, so') ((nI 0), (nI 0), (nI 0), 0, (nI 0), 1, (nI (bl_yb 0 + 0)), (-1), yk, yv, 0, yt, rk, rv, kY, nY, en', ln, pr', sp', pk, pv, th', ss', po, so', cy, cb, cs', gt, ph, ge, gk, gv, bp, ok, ov, ob) := by
      refine ⟨3010 * (300 - 0) + 0 + 1, by omega, bl_mkE (s := 0) (cl := 0) (sc := 0) (d := 0) (h := 0) (st := 0) (r := 0) (t := 0) C (by omega) (by omega) (by omega) (by omega) (fun n hn => absurd hn (by omega)) (fun n hn => absurd hn (by omega)) b6 (fun n hn => absurd hn (by omega)) ⟨rfl, rfl, rfl⟩ (Or.inl rfl) (by omega) n0 rfl⟩
    obtain ⟨q, hq, R⟩ := R0
    obtain ⟨uf, vf, F, wX, wY⟩ := bl_main q _ _ R
    obtain ⟨a, u', v', hrel, fX, fY⟩ := bl_fin F
    refine ⟨q + 1, wX _ (q + 1) 0 (by omega) (by omega) (fX _ ?_)⟩
    unfold wpY_run
    refine hY _ ?_
    refine br_f (by decide) ?_
    rw [b2]
    refine W _ ?_
    exact ⟨q + 2, wY _ (q + 2) (by omega) (fY _ ⟨rfl, hrel⟩)⟩
  · refine br_t rfl ?_
    unfold wpY_run
    refine hY _ ?_
    exact br_t rfl ⟨rfl, ⟨⟨rfl, rfl, rfl, rfl, rfl, rfl, rfl⟩, L, J⟩⟩
