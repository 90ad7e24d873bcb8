/-! turns: a token is entered -/
section
variable {dl lc xst xd xcl xsc xm xa xs xb xe yen ycl yw ym ya ys yk yv yc yt rk rv : Int32}
variable {lr xg : Int64}
variable {kX vX df pr sp th fc fs fb fd fe kp cc cs ss so kY nY en ln pk pv po cy cb gt ph ge gk gv bp ok ov ob : Nat → Int32}
variable {pl fv kv sv : Nat → Int64}
variable {L : Nat → Nat} {q d h sc cl st s r t m m2 p j b w e : Nat}
theorem bl_E_long (C : bl_Cf L dl kX vX df pr sp kY nY en ln) (hcl : cl ≤ st) (hst : st ≤ 300) (So : bl_So sp ss so po sc) (Co : bl_Co kX vX L cc cs cy cb sc cl) (P : bl_Po cl pl pk pv) (V : bl_Vo cl sc sv pk pv) (hd : d ≤ st) (hw : 3001 * sc + s ≤ 3010 * st) (S : bl_St kX vX L sc cl (bl_x fc fs fb fd fv fe kp kv) (bl_y gt ph ge gk gv bp ok ov ob) d h xb s) (hs : bl_sc sc xs) (hr : r < 5) (ht : t < L r) (h3 : st = 300) : ∃ u' v' q, q < 3010 * (300 - st) + s + 1 ∧ bl_RR L q u' v' ∧ (∀ post : SX → Prop, post u' → wpX_enterToken post (dl, lr, lc, (nI st), (nI d), (nI cl), (nI sc), 0, (nI (48 * r + t)), xs, xb, xg, xe, kX, vX, df, pr, sp, pl, th, fc, fs, fb, fd, fv, fe, kp, kv, cc, cs, ss, sv, so)) ∧ (∀ post : SY → Prop, post v' → wpY_evaluate post ((nI sc), (nI cl), (nI h), xb, (nI st), 1, (nI (bl_yb r + t)), xs, yk, yv, yc, yt, rk, rv, kY, nY, en, ln, pr, sp, pk, pv, th, ss, po, so, cy, cb, cs, gt, ph, ge, gk, gv, bp, ok, ov, ob)) := by
  subst h3
  refine ⟨(dl, lr, lc, (nI 300), (nI d), (nI cl), (nI sc), 2, (nI (48 * r + t)), xs, xb, xg, 5, kX, vX, df, pr, sp, pl, th, fc, fs, fb, fd, fv, fe, kp, kv, cc, cs, ss, sv, so), ((nI sc), (nI cl), (nI h), xb, (nI 300), 3, (nI (bl_yb r + t)), xs, yk, yv, yc, yt, rk, rv, kY, nY, en, ln, pr, sp, pk, pv, th, ss, po, so, cy, cb, cs, gt, ph, ge, gk, gv, bp, ok, ov, ob), _, ?_, bl_mkL C hd hcl hst hw So Co P V S rfl, fun post hp => br_f (by decide) hp, fun post hp => br_t rfl hp⟩
  omega
theorem bl_E_num (C : bl_Cf L dl kX vX df pr sp kY nY en ln) (hcl : cl ≤ st) (hst : st ≤ 300) (So : bl_So sp ss so po sc) (Co : bl_Co kX vX L cc cs cy cb sc cl) (P : bl_Po cl pl pk pv) (V : bl_Vo cl sc sv pk pv) (hd : d ≤ st) (hw : 3001 * sc + s ≤ 3010 * st) (S : bl_St kX vX L sc cl (bl_x fc fs fb fd fv fe kp kv) (bl_y gt ph ge gk gv bp ok ov ob) d h xb s) (hs : bl_sc sc xs) (hr : r < 5) (ht : t < L r) (h3 : st < 300) (hk : kX (48 * r + t) = 0) : ∃ u' v' q, q < 3010 * (300 - st) + s + 1 ∧ bl_RR L q u' v' ∧ (∀ post : SX → Prop, post u' → wpX_enterToken post (dl, lr, lc, (nI st), (nI d), (nI cl), (nI sc), 0, (nI (48 * r + t)), xs, xb, xg, xe, kX, vX, df, pr, sp, pl, th, fc, fs, fb, fd, fv, fe, kp, kv, cc, cs, ss, sv, so)) ∧ (∀ post : SY → Prop, post v' → wpY_evaluate post ((nI sc), (nI cl), (nI h), xb, (nI st), 1, (nI (bl_yb r + t)), xs, yk, yv, yc, yt, rk, rv, kY, nY, en, ln, pr, sp, pk, pv, th, ss, po, so, cy, cb, cs, gt, ph, ge, gk, gv, bp, ok, ov, ob)) := by
  have K := C.1
  have p240 := bl_pX K hr ht
  have q240 := bl_pY K hr ht
  have kq := (bl_kY K hr ht).1
  have nq := (bl_kY K hr ht).2
  have tk := K.2.2 _ p240
  have R := C.2.1 r hr (by omega)
  have l48 := K.1 r hr
  have i240 : vp_in (nI (48 * r + t)) 240 := vp_in_nI p240 (by decide)
  have j240 : vp_in (nI (bl_yb r + t)) 240 := vp_in_nI q240 (by decide)
  have cp : (nI (48 * r + t)).toNatClampNeg = 48 * r + t := nI_clamp (by omega)
  have cq : (nI (bl_yb r + t)).toNatClampNeg = bl_yb r + t := nI_clamp (by omega)
  have ne300 : ¬ nI st = 300 := by
    intro z
    have := (nI_eq (a := st) (b := 300) (by omega) (by decide)).mp z
    omega
  refine ⟨(dl, lr, lc, (nI (st + 1)), (nI d), (nI cl), (nI sc), 1, (nI (48 * r + t)), xs, xb, (vX (48 * r + t)).toInt64, 0, kX, vX, df, pr, sp, pl, th, fc, fs, fb, fd, fv, fe, kp, kv, cc, cs, ss, sv, so), ((nI sc), (nI cl), (nI h), xb, (nI (st + 1)), 0, (nI (bl_yb r + t)), xs, 0, (vX (48 * r + t)), yc, yt, rk, rv, kY, nY, en, ln, pr, sp, pk, pv, th, ss, po, so, cy, cb, cs, gt, ph, ge, gk, gv, bp, ok, ov, ob), _, ?_, bl_mkG C (by omega) (by omega) (by omega) (by omega) So Co P V S (Or.inl ⟨rfl, rfl⟩) rfl, fun post hp => br_t (nI_lt (b := 300) (by omega) (by decide)) (nm_r (nI_1 st) ⟨i240, nm_r (e' := kX (48 * r + t)) (by rw [cp]) (br_t hk ⟨i240, ?_⟩)⟩), fun post hp => br_f ne300 (nm_r (nI_1 st) ⟨j240, nm_r (e' := kX (48 * r + t)) (by rw [cq, kq]) ⟨j240, nm_r (e' := vX (48 * r + t)) (by rw [cq, nq]) (br_t hk hp)⟩⟩)⟩
  · omega
  · rw [cp]; exact hp
theorem bl_E_fail (C : bl_Cf L dl kX vX df pr sp kY nY en ln) (hcl : cl ≤ st) (hst : st ≤ 300) (So : bl_So sp ss so po sc) (Co : bl_Co kX vX L cc cs cy cb sc cl) (P : bl_Po cl pl pk pv) (V : bl_Vo cl sc sv pk pv) (hd : d ≤ st) (hw : 3001 * sc + s ≤ 3010 * st) (S : bl_St kX vX L sc cl (bl_x fc fs fb fd fv fe kp kv) (bl_y gt ph ge gk gv bp ok ov ob) d h xb s) (hs : bl_sc sc xs) (hr : r < 5) (ht : t < L r) (h3 : st < 300) (hk : kX (48 * r + t) = 18) : ∃ u' v' q, q < 3010 * (300 - st) + s + 1 ∧ bl_RR L q u' v' ∧ (∀ post : SX → Prop, post u' → wpX_enterToken post (dl, lr, lc, (nI st), (nI d), (nI cl), (nI sc), 0, (nI (48 * r + t)), xs, xb, xg, xe, kX, vX, df, pr, sp, pl, th, fc, fs, fb, fd, fv, fe, kp, kv, cc, cs, ss, sv, so)) ∧ (∀ post : SY → Prop, post v' → wpY_evaluate post ((nI sc), (nI cl), (nI h), xb, (nI st), 1, (nI (bl_yb r + t)), xs, yk, yv, yc, yt, rk, rv, kY, nY, en, ln, pr, sp, pk, pv, th, ss, po, so, cy, cb, cs, gt, ph, ge, gk, gv, bp, ok, ov, ob)) := by
  have K := C.1
  have p240 := bl_pX K hr ht
  have q240 := bl_pY K hr ht
  have kq := (bl_kY K hr ht).1
  have nq := (bl_kY K hr ht).2
  have tk := K.2.2 _ p240
  have R := C.2.1 r hr (by omega)
  have l48 := K.1 r hr
  have i240 : vp_in (nI (48 * r + t)) 240 := vp_in_nI p240 (by decide)
  have j240 : vp_in (nI (bl_yb r + t)) 240 := vp_in_nI q240 (by decide)
  have cp : (nI (48 * r + t)).toNatClampNeg = 48 * r + t := nI_clamp (by omega)
  have cq : (nI (bl_yb r + t)).toNatClampNeg = bl_yb r + t := nI_clamp (by omega)
  have ne300 : ¬ nI st = 300 := by
    intro z
    have := (nI_eq (a := st) (b := 300) (by omega) (by decide)).mp z
    omega
  have k0 : ¬ kX (48 * r + t) = 0 := by rw [hk]; decide
  have k1 : ¬ kX (48 * r + t) = 1 := by rw [hk]; decide
  have k4 : ¬ kX (48 * r + t) = 4 := by rw [hk]; decide
  refine ⟨(dl, lr, lc, (nI (st + 1)), (nI d), (nI cl), (nI sc), 2, (nI (48 * r + t)), xs, xb, xg, 4, kX, vX, df, pr, sp, pl, th, fc, fs, fb, fd, fv, fe, kp, kv, cc, cs, ss, sv, so), ((nI sc), (nI cl), (nI h), xb, (nI (st + 1)), 2, (nI (bl_yb r + t)), xs, yk, yv, 4, (-1), rk, rv, kY, nY, en, ln, pr, sp, pk, pv, th, ss, po, so, cy, cb, cs, gt, ph, ge, gk, gv, bp, ok, ov, ob), _, ?_, bl_mkN C (by omega) (by omega) (by omega) (by omega) So Co P V (Or.inl S) (Or.inl ⟨4, by omega, by omega, rfl, rfl, rfl⟩) rfl, fun post hp => br_t (nI_lt (b := 300) (by omega) (by decide)) (nm_r (nI_1 st) ⟨i240, nm_r (e' := kX (48 * r + t)) (by rw [cp]) (br_f k0 (br_f k1 (br_f k4 (br_t hk hp))))⟩), fun post hp => br_f ne300 (nm_r (nI_1 st) ⟨j240, nm_r (e' := kX (48 * r + t)) (by rw [cq, kq]) ⟨j240, nm_r (e' := vX (48 * r + t)) (by rw [cq, nq]) (br_f k0 (br_f k1 (br_t hk hp)))⟩⟩)⟩
  omega
theorem bl_E_fun (C : bl_Cf L dl kX vX df pr sp kY nY en ln) (hcl : cl ≤ st) (hst : st ≤ 300) (So : bl_So sp ss so po sc) (Co : bl_Co kX vX L cc cs cy cb sc cl) (P : bl_Po cl pl pk pv) (V : bl_Vo cl sc sv pk pv) (hd : d ≤ st) (hw : 3001 * sc + s ≤ 3010 * st) (S : bl_St kX vX L sc cl (bl_x fc fs fb fd fv fe kp kv) (bl_y gt ph ge gk gv bp ok ov ob) d h xb s) (hs : bl_sc sc xs) (hr : r < 5) (ht : t < L r) (h3 : st < 300) (hk : kX (48 * r + t) = 4) : ∃ u' v' q, q < 3010 * (300 - st) + s + 1 ∧ bl_RR L q u' v' ∧ (∀ post : SX → Prop, post u' → wpX_enterToken post (dl, lr, lc, (nI st), (nI d), (nI cl), (nI sc), 0, (nI (48 * r + t)), xs, xb, xg, xe, kX, vX, df, pr, sp, pl, th, fc, fs, fb, fd, fv, fe, kp, kv, cc, cs, ss, sv, so)) ∧ (∀ post : SY → Prop, post v' → wpY_evaluate post ((nI sc), (nI cl), (nI h), xb, (nI st), 1, (nI (bl_yb r + t)), xs, yk, yv, yc, yt, rk, rv, kY, nY, en, ln, pr, sp, pk, pv, th, ss, po, so, cy, cb, cs, gt, ph, ge, gk, gv, bp, ok, ov, ob)) := by
  have K := C.1
  have p240 := bl_pX K hr ht
  have q240 := bl_pY K hr ht
  have kq := (bl_kY K hr ht).1
  have nq := (bl_kY K hr ht).2
  have tk := K.2.2 _ p240
  have R := C.2.1 r hr (by omega)
  have l48 := K.1 r hr
  have i240 : vp_in (nI (48 * r + t)) 240 := vp_in_nI p240 (by decide)
  have j240 : vp_in (nI (bl_yb r + t)) 240 := vp_in_nI q240 (by decide)
  have cp : (nI (48 * r + t)).toNatClampNeg = 48 * r + t := nI_clamp (by omega)
  have cq : (nI (bl_yb r + t)).toNatClampNeg = bl_yb r + t := nI_clamp (by omega)
  have ne300 : ¬ nI st = 300 := by
    intro z
    have := (nI_eq (a := st) (b := 300) (by omega) (by decide)).mp z
    omega
  have k0 : ¬ kX (48 * r + t) = 0 := by rw [hk]; decide
  have k1 : ¬ kX (48 * r + t) = 1 := by rw [hk]; decide
  have k18 : ¬ kX (48 * r + t) = 18 := by rw [hk]; decide
  have cc1 : (nI cl).toNatClampNeg = cl := nI_clamp (by omega)
  have i3 : vp_in (nI cl) 300 := vp_in_nI (by omega) (by decide)
  have j3 : vp_in (nI cl) 310 := vp_in_nI (by omega) (by decide)
  refine ⟨(dl, lr, lc, (nI (st + 1)), (nI d), (nI (cl + 1)), (nI sc), 1, (nI (48 * r + t)), xs, xb, (20000000000 + lN cl), 0, kX, vX, df, pr, sp, pl, th, fc, fs, fb, fd, fv, fe, kp, kv, (upd cc cl (nI (48 * r + t))), (upd cs cl xs), ss, sv, so), ((nI sc), (nI (cl + 1)), (nI h), xb, (nI (st + 1)), 0, (nI (bl_yb r + t)), xs, 1, (nI cl), yc, yt, rk, rv, kY, nY, en, ln, pr, sp, pk, pv, th, ss, po, so, (upd cy cl (vX (48 * r + t))), (upd cb cl (nI (bl_yb r + (t + 1)))), (upd cs cl xs), gt, ph, ge, gk, gv, bp, ok, ov, ob), _, ?_, bl_mkG C (by omega) (by omega) (by omega) (by omega) So (bl_Co_push Co hs hr ht hk) (bl_Po_up (by omega) P) (bl_Vo_up (by omega) V) (bl_St_cg (Nat.le_refl _) (by omega) d h xb s (fun _ _ => rfl) (fun _ _ => rfl) S) (Or.inr ⟨rfl, cl, by omega, rfl, rfl⟩) rfl, fun post hp => br_t (nI_lt (b := 300) (by omega) (by decide)) (nm_r (nI_1 st) ⟨i240, nm_r (e' := kX (48 * r + t)) (by rw [cp]) (br_f k0 (br_f k1 (br_t hk ⟨i3, nm_r (e' := upd cc cl (nI (48 * r + t))) (by rw [cc1]) ⟨i3, nm_r (e' := upd cs cl xs) (by rw [cc1]) ?_⟩⟩)))⟩), fun post hp => br_f ne300 (nm_r (nI_1 st) ⟨j240, nm_r (e' := kX (48 * r + t)) (by rw [cq, kq]) ⟨j240, nm_r (e' := vX (48 * r + t)) (by rw [cq, nq]) (br_f k0 (br_f k1 (br_f k18 (br_t hk ⟨j3, nm_r (e' := upd cy cl (vX (48 * r + t))) (by rw [cc1]) ⟨j3, nm_r (e' := upd cb cl (nI (bl_yb r + (t + 1)))) (by rw [cc1, nI_1]; rfl) ⟨j3, nm_r (e' := upd cs cl xs) (by rw [cc1]) (nm_r (nI_1 cl) hp)⟩⟩⟩))))⟩⟩)⟩
  · omega
  · rw [nI_l (by omega)]; exact nm_r (nI_1 cl) hp
theorem bl_E_var (C : bl_Cf L dl kX vX df pr sp kY nY en ln) (hcl : cl ≤ st) (hst : st ≤ 300) (So : bl_So sp ss so po sc) (Co : bl_Co kX vX L cc cs cy cb sc cl) (P : bl_Po cl pl pk pv) (V : bl_Vo cl sc sv pk pv) (hd : d ≤ st) (hw : 3001 * sc + s ≤ 3010 * st) (S : bl_St kX vX L sc cl (bl_x fc fs fb fd fv fe kp kv) (bl_y gt ph ge gk gv bp ok ov ob) d h xb s) (hs : bl_sc sc xs) (hr : r < 5) (ht : t < L r) (h3 : st < 300) (hk : kX (48 * r + t) = 1) : ∃ u' v' q, q < 3010 * (300 - st) + s + 1 ∧ bl_RR L q u' v' ∧ (∀ post : SX → Prop, post u' → wpX_enterToken post (dl, lr, lc, (nI st), (nI d), (nI cl), (nI sc), 0, (nI (48 * r + t)), xs, xb, xg, xe, kX, vX, df, pr, sp, pl, th, fc, fs, fb, fd, fv, fe, kp, kv, cc, cs, ss, sv, so)) ∧ (∀ post : SY → Prop, post v' → wpY_evaluate post ((nI sc), (nI cl), (nI h), xb, (nI st), 1, (nI (bl_yb r + t)), xs, yk, yv, yc, yt, rk, rv, kY, nY, en, ln, pr, sp, pk, pv, th, ss, po, so, cy, cb, cs, gt, ph, ge, gk, gv, bp, ok, ov, ob)) := by
  have K := C.1
  have p240 := bl_pX K hr ht
  have q240 := bl_pY K hr ht
  have kq := (bl_kY K hr ht).1
  have nq := (bl_kY K hr ht).2
  have tk := K.2.2 _ p240
  have R := C.2.1 r hr (by omega)
  have l48 := K.1 r hr
  have i240 : vp_in (nI (48 * r + t)) 240 := vp_in_nI p240 (by decide)
  have j240 : vp_in (nI (bl_yb r + t)) 240 := vp_in_nI q240 (by decide)
  have cp : (nI (48 * r + t)).toNatClampNeg = 48 * r + t := nI_clamp (by omega)
  have cq : (nI (bl_yb r + t)).toNatClampNeg = bl_yb r + t := nI_clamp (by omega)
  have ne300 : ¬ nI st = 300 := by
    intro z
    have := (nI_eq (a := st) (b := 300) (by omega) (by decide)).mp z
    omega
  have k0 : ¬ kX (48 * r + t) = 0 := by rw [hk]; decide
  obtain ⟨j, hj, ej⟩ := bl_tk8 tk (Or.inl hk)
  obtain ⟨b, hb, rfl⟩ := bl_St_b K _ _ _ _ S
  have hsc : sc ≤ 300 := by omega
  have cl3 : cl < 1000 := by omega
  have main : ∃ (g : Int64) (a c : Int32), bl_vr cl g a c ∧ (∀ post : SX → Prop, wX_giveVariable_34 post g dl lr lc (nI (st + 1)) (nI d) (nI cl) (nI sc) 0 (nI (48 * r + t)) xs (nI b) xg xe kX vX df pr sp pl th fc fs fb fd fv fe kp kv cc cs ss sv so → wpX_giveVariable post (dl, lr, lc, (nI (st + 1)), (nI d), (nI cl), (nI sc), 0, (nI (48 * r + t)), xs, (nI b), xg, xe, kX, vX, df, pr, sp, pl, th, fc, fs, fb, fd, fv, fe, kp, kv, cc, cs, ss, sv, so) (nI j)) ∧ (∀ post : SY → Prop, ((a = 2 → post ((nI sc), (nI cl), (nI h), (nI b), (nI (st + 1)), 2, (nI (bl_yb r + t)), xs, yk, yv, 1, (-1), rk, rv, kY, nY, en, ln, pr, sp, pk, pv, th, ss, po, so, cy, cb, cs, gt, ph, ge, gk, gv, bp, ok, ov, ob)) ∧ (¬ a = 2 → post ((nI sc), (nI cl), (nI h), (nI b), (nI (st + 1)), 0, (nI (bl_yb r + t)), xs, a, c, yc, yt, rk, rv, kY, nY, en, ln, pr, sp, pk, pv, th, ss, po, so, cy, cb, cs, gt, ph, ge, gk, gv, bp, ok, ov, ob))) → wpY_look post ((nI sc), (nI cl), (nI h), (nI b), (nI (st + 1)), 1, (nI (bl_yb r + t)), xs, yk, yv, yc, yt, rk, rv, kY, nY, en, ln, pr, sp, pk, pv, th, ss, po, so, cy, cb, cs, gt, ph, ge, gk, gv, bp, ok, ov, ob) (nI j)) := by
    rcases bl_look (dl := dl) (lr := lr) (lc := lc) (xst := nI (st + 1)) (xd := nI d) (xcl := nI cl) (xsc := nI sc) (xm := 0) (xa := nI (48 * r + t)) (xs := xs) (xb := nI b) (xg := xg) (xe := xe) (kX := kX) (vX := vX) (df := df) (pr := pr) (sp := sp) (pl := pl) (th := th) (fc := fc) (fs := fs) (fb := fb) (fd := fd) (fv := fv) (fe := fe) (kp := kp) (kv := kv) (cc := cc) (cs := cs) (ss := ss) (sv := sv) (so := so) (yen := nI sc) (ycl := nI cl) (yw := nI h) (ym := 1) (ya := nI (bl_yb r + t)) (ys := xs) (yk := yk) (yv := yv) (yc := yc) (yt := yt) (rk := rk) (rv := rv) (kY := kY) (nY := nY) (en := en) (ln := ln) (pk := pk) (pv := pv) (po := po) (cy := cy) (cb := cb) (gt := gt) (ph := ph) (ge := ge) (gk := gk) (gv := gv) (bp := bp) (ok := ok) (ov := ov) (ob := ob) (e := xs) (j := j) So hsc hj hs with ⟨m, hm, hX, hY⟩ | ⟨hX, hY⟩
    · refine ⟨sv m, pk (32 + m), pv (32 + m), V m hm, fun post hp => hX _ (br_f (bl_neg1 (by omega)) ⟨vp_in_nI (by omega) (by decide), ?_⟩), fun post hp => hY _ ⟨vp_in_nI (by omega) (by decide), ?_⟩⟩
      · rw [nI_clamp (by omega)]; exact hp
      · rw [nI_clamp (by omega)]
        exact br_c (fun z => hp.1 z) (fun z => ⟨vp_in_nI (by omega) (by decide), vp_in_nI (by omega) (by decide), hp.2 z⟩)
    · obtain ⟨p, hp0, ep⟩ := bl_pp (th := th) hj hb
      refine ⟨pl p, pk p, pv p, P p hp0, fun post hp => hX _ (br_t rfl (bl_x_pp hj hb ?_)), fun post hp => hY _ (bl_y_pp hj hb ?_)⟩
      · rw [ep]
        refine ⟨vp_in_nI hp0 (by decide), ?_⟩
        rw [nI_clamp (by omega)]; exact hp
      · rw [ep]
        refine ⟨vp_in_nI (by omega) (by decide), ?_⟩
        rw [nI_clamp (by omega)]
        exact br_c (fun z => hp.1 z) (fun z => ⟨vp_in_nI (by omega) (by decide), vp_in_nI (by omega) (by decide), hp.2 z⟩)
  obtain ⟨g, a, c, hv, hX, hY⟩ := main
  by_cases z : a = 2
  · refine ⟨(dl, lr, lc, (nI (st + 1)), (nI d), (nI cl), (nI sc), 2, (nI (48 * r + t)), xs, (nI b), xg, 1, kX, vX, df, pr, sp, pl, th, fc, fs, fb, fd, fv, fe, kp, kv, cc, cs, ss, sv, so), ((nI sc), (nI cl), (nI h), (nI b), (nI (st + 1)), 2, (nI (bl_yb r + t)), xs, yk, yv, 1, (-1), rk, rv, kY, nY, en, ln, pr, sp, pk, pv, th, ss, po, so, cy, cb, cs, gt, ph, ge, gk, gv, bp, ok, ov, ob), _, ?_, bl_mkN C (by omega) (by omega) (by omega) (by omega) So Co P V (Or.inl S) (Or.inl ⟨1, by omega, by omega, rfl, rfl, rfl⟩) rfl, fun post hp => br_t (nI_lt (b := 300) (by omega) (by decide)) (nm_r (nI_1 st) ⟨i240, nm_r (e' := kX (48 * r + t)) (by rw [cp]) (br_f k0 (br_t hk ⟨i240, ?_⟩))⟩), fun post hp => br_f ne300 (nm_r (nI_1 st) ⟨j240, nm_r (e' := kX (48 * r + t)) (by rw [cq, kq]) ⟨j240, nm_r (e' := vX (48 * r + t)) (by rw [cq, nq]) (br_f k0 (br_t hk ?_))⟩⟩)⟩
    · omega
    · rw [cp, ej]
      exact hX _ (br_t ((bl_vr_n cl3 hv).mpr z) hp)
    · rw [ej]
      exact hY _ (br_t z hp)
  · refine ⟨(dl, lr, lc, (nI (st + 1)), (nI d), (nI cl), (nI sc), 1, (nI (48 * r + t)), xs, (nI b), g, 0, kX, vX, df, pr, sp, pl, th, fc, fs, fb, fd, fv, fe, kp, kv, cc, cs, ss, sv, so), ((nI sc), (nI cl), (nI h), (nI b), (nI (st + 1)), 0, (nI (bl_yb r + t)), xs, a, c, yc, yt, rk, rv, kY, nY, en, ln, pr, sp, pk, pv, th, ss, po, so, cy, cb, cs, gt, ph, ge, gk, gv, bp, ok, ov, ob), _, ?_, bl_mkG C (by omega) (by omega) (by omega) (by omega) So Co P V S (bl_vr_g hv z) rfl, fun post hp => br_t (nI_lt (b := 300) (by omega) (by decide)) (nm_r (nI_1 st) ⟨i240, nm_r (e' := kX (48 * r + t)) (by rw [cp]) (br_f k0 (br_t hk ⟨i240, ?_⟩))⟩), fun post hp => br_f ne300 (nm_r (nI_1 st) ⟨j240, nm_r (e' := kX (48 * r + t)) (by rw [cq, kq]) ⟨j240, nm_r (e' := vX (48 * r + t)) (by rw [cq, nq]) (br_f k0 (br_t hk ?_))⟩⟩)⟩
    · omega
    · rw [cp, ej]
      exact hX _ (br_f (fun y => z ((bl_vr_n cl3 hv).mp y)) hp)
    · rw [ej]
      exact hY _ (br_f z hp)
theorem bl_St_mk {hb : Int32} (hr : r < 5) (ht : t < L r) (c1 : fc d = nI (48 * r + t)) (c2 : gt h = nI (bl_yb r + t)) (c3 : fs d = ge h) (c4 : bl_sc sc (fs d)) (c5 : fb d = ob h) (c6 : fd d = nI e) (c7 : w = bl_wt (kX (48 * r + t)) e) (c8 : hb = if kX (48 * r + t) = 16 then vX (48 * r + t) else fb d) (c9 : bl_ph cl (bl_hc kX vX (bl_x fc fs fb fd fv fe kp kv) d) (kX (48 * r + t)) e (fv d) (fe d) (kp d) (kv d) (ph h) (gk h) (gv h) (bp h) (ok h) (ov h)) (S : bl_St kX vX L sc cl (bl_x fc fs fb fd fv fe kp kv) (bl_y gt ph ge gk gv bp ok ov ob) d h (fb d) s) : bl_St kX vX L sc cl (bl_x fc fs fb fd fv fe kp kv) (bl_y gt ph ge gk gv bp ok ov ob) (d + 1) (h + 1) hb (w + s) :=
  Or.inr ⟨h, s, w, rfl, rfl, ⟨r, t, e, hr, ht, c1, c2, c3, c4, c5, c6, c7, c8, c9⟩, S⟩
theorem bl_E_open (C : bl_Cf L dl kX vX df pr sp kY nY en ln) (hcl : cl ≤ st) (hst : st ≤ 300) (So : bl_So sp ss so po sc) (Co : bl_Co kX vX L cc cs cy cb sc cl) (P : bl_Po cl pl pk pv) (V : bl_Vo cl sc sv pk pv) (hd : d ≤ st) (hw : 3001 * sc + s ≤ 3010 * st) (S : bl_St kX vX L sc cl (bl_x fc fs fb fd fv fe kp kv) (bl_y gt ph ge gk gv bp ok ov ob) d h xb s) (hs : bl_sc sc xs) (hr : r < 5) (ht : t < L r) (h3 : st < 300) (hk : kX (48 * r + t) = 2 ∨ kX (48 * r + t) = 3 ∨ kX (48 * r + t) = 5 ∨ kX (48 * r + t) = 6 ∨ kX (48 * r + t) = 7 ∨ kX (48 * r + t) = 8 ∨ kX (48 * r + t) = 9 ∨ kX (48 * r + t) = 10 ∨ kX (48 * r + t) = 11 ∨ kX (48 * r + t) = 12 ∨ kX (48 * r + t) = 13 ∨ kX (48 * r + t) = 14 ∨ kX (48 * r + t) = 15 ∨ kX (48 * r + t) = 16 ∨ kX (48 * r + t) = 17) : ∃ u' v' q, q < 3010 * (300 - st) + s + 1 ∧ bl_RR L q u' v' ∧ (∀ post : SX → Prop, post u' → wpX_enterToken post (dl, lr, lc, (nI st), (nI d), (nI cl), (nI sc), 0, (nI (48 * r + t)), xs, xb, xg, xe, kX, vX, df, pr, sp, pl, th, fc, fs, fb, fd, fv, fe, kp, kv, cc, cs, ss, sv, so)) ∧ (∀ post : SY → Prop, post v' → wpY_evaluate post ((nI sc), (nI cl), (nI h), xb, (nI st), 1, (nI (bl_yb r + t)), xs, yk, yv, yc, yt, rk, rv, kY, nY, en, ln, pr, sp, pk, pv, th, ss, po, so, cy, cb, cs, gt, ph, ge, gk, gv, bp, ok, ov, ob)) := by
  have K := C.1
  have p240 := bl_pX K hr ht
  have q240 := bl_pY K hr ht
  have kq := (bl_kY K hr ht).1
  have nq := (bl_kY K hr ht).2
  have tk := K.2.2 _ p240
  have R := C.2.1 r hr (by omega)
  have l48 := K.1 r hr
  have i240 : vp_in (nI (48 * r + t)) 240 := vp_in_nI p240 (by decide)
  have j240 : vp_in (nI (bl_yb r + t)) 240 := vp_in_nI q240 (by decide)
  have cp : (nI (48 * r + t)).toNatClampNeg = 48 * r + t := nI_clamp (by omega)
  have cq : (nI (bl_yb r + t)).toNatClampNeg = bl_yb r + t := nI_clamp (by omega)
  have ne300 : ¬ nI st = 300 := by
    intro z
    have := (nI_eq (a := st) (b := 300) (by omega) (by decide)).mp z
    omega
  have hh := bl_St_le _ _ _ _ S
  have nk : ¬ kX (48 * r + t) = 0 ∧ ¬ kX (48 * r + t) = 1 ∧ ¬ kX (48 * r + t) = 4 ∧ ¬ kX (48 * r + t) = 18 ∧ 0 < bl_ar (kX (48 * r + t)) := by
    rcases hk with z | z | z | z | z | z | z | z | z | z | z | z | z | z | z <;> rw [z] <;> decide
  obtain ⟨k0, k1, k4, k18, ka⟩ := nk
  have t1 := bl_p0 R ht ka
  have cd : (nI d).toNatClampNeg = d := nI_clamp (by omega)
  have ch : (nI h).toNatClampNeg = h := nI_clamp (by omega)
  have i3 : vp_in (nI d) 300 := vp_in_nI (by omega) (by decide)
  have j3 : vp_in (nI h) 320 := vp_in_nI (by omega) (by decide)
  refine ⟨(dl, lr, lc, (nI (st + 1)), (nI (d + 1)), (nI cl), (nI sc), 0, (nI (48 * r + (t + 1))), xs, (if kX (48 * r + t) = 16 then vX (48 * r + t) else xb), xg, xe, kX, vX, df, pr, sp, pl, th, (upd fc d (nI (48 * r + t))), (upd fs d xs), (upd fb d xb), (upd fd d 0), fv, fe, (upd kp d (-1)), kv, cc, cs, ss, sv, so), ((nI sc), (nI cl), (nI (h + 1)), (if kX (48 * r + t) = 16 then vX (48 * r + t) else xb), (nI (st + 1)), 1, (nI (bl_yb r + (t + 1))), xs, yk, yv, yc, yt, rk, rv, kY, nY, en, ln, pr, sp, pk, pv, th, ss, po, so, cy, cb, cs, (upd gt h (nI (bl_yb r + t))), (upd ph h 0), (upd ge h xs), gk, gv, (upd bp h (-1)), ok, ov, (upd ob h xb)), 3010 * (300 - (st + 1)) + (3009 + s) + 1, by omega, bl_mkE (s := 3009 + s) C (by omega) (by omega) (by omega) (by omega) So Co P V ?_ hs hr t1 rfl, fun post hp => br_t (nI_lt (b := 300) (by omega) (by decide)) (nm_r (nI_1 st) ⟨i240, nm_r (e' := kX (48 * r + t)) (by rw [cp]) (br_f k0 (br_f k1 (br_f k4 (br_f k18 ⟨i3, nm_r (e' := upd fc d (nI (48 * r + t))) (by rw [cd]) ⟨i3, nm_r (e' := upd fs d xs) (by rw [cd]) ⟨i3, nm_r (e' := upd fb d xb) (by rw [cd]) ⟨i3, nm_r (e' := upd fd d 0) (by rw [cd]) ⟨i3, nm_r (e' := upd kp d (-1)) (by rw [cd]) (nm_r (nI_1 d) ⟨i240, ?_⟩)⟩⟩⟩⟩⟩))))⟩), fun post hp => br_f ne300 (nm_r (nI_1 st) ⟨j240, nm_r (e' := kX (48 * r + t)) (by rw [cq, kq]) ⟨j240, nm_r (e' := vX (48 * r + t)) (by rw [cq, nq]) (br_f k0 (br_f k1 (br_f k18 (br_f k4 ⟨j3, nm_r (e' := upd gt h (nI (bl_yb r + t))) (by rw [ch]) ⟨j3, nm_r (e' := upd ph h 0) (by rw [ch]) ⟨j3, nm_r (e' := upd ge h xs) (by rw [ch]) ⟨j3, nm_r (e' := upd bp h (-1)) (by rw [ch]) ⟨j3, nm_r (e' := upd ob h xb) (by rw [ch]) (nm_r (nI_1 h) ?_)⟩⟩⟩⟩⟩))))⟩⟩)⟩
  · refine bl_St_mk (r := r) (t := t) (e := 0) hr ht pk_us pk_us (pk_us.trans pk_us.symm) ?_ (pk_us.trans pk_us.symm) pk_us (by simp [bl_wt]) ?_ (Or.inl ⟨rfl, pk_us, hk, pk_us, pk_us⟩) ?_
    · rw [pk_us]; exact hs
    · rw [pk_us]
    · rw [pk_us]
      refine bl_St_cg (Nat.le_refl _) (Nat.le_refl _) d h xb s (fun i hi => ?_) (fun i hi => ?_) S
      · have : i ≠ d := by omega
        simp only [bl_x, pk_un this]
      · have : i ≠ h := by omega
        simp only [bl_y, pk_un this]
  · rw [cp]
    by_cases z : kX (48 * r + t) = 16
    · rw [if_pos z] at hp
      refine br_t z ⟨i240, nm_r (e' := vX (48 * r + t)) rfl (bl_x_sp1 (by omega) p240 pk_us ?_)⟩
      rw [pk_us]; exact hp
    · rw [if_neg z] at hp
      refine br_f z (bl_x_sp1 (by omega) p240 pk_us ?_)
      rw [pk_us]; exact hp
  · by_cases z : kX (48 * r + t) = 16
    · rw [if_pos z] at hp
      refine br_t z ?_
      rw [show nI (bl_yb r + (t + 1)) = nI (bl_yb r + t) + 1 from (nI_1 _).symm] at hp
      exact hp
    · rw [if_neg z] at hp
      refine br_f z ?_
      rw [show nI (bl_yb r + (t + 1)) = nI (bl_yb r + t) + 1 from (nI_1 _).symm] at hp
      exact hp
end
