/-! turns: a value is given to the frame on top (3) -/
section
variable {dl lc xst xd xcl xsc xm xa xs xb xe yen ycl yw ym ya ys yk yv yc yt rk rv : Int32}
variable {lr xg : Int64}
variable {kX vX df pr sp th fc fs fb fd fe kp cc cs ss so kY nY en ln pk pv po cy cb gt ph ge gk gv bp ok ov ob : Nat → Int32}
variable {pl fv kv sv : Nat → Int64}
variable {L : Nat → Nat} {q d h sc cl st s r t m m2 p j b w e : Nat}
theorem bl_G_miss (C : bl_Cf L dl kX vX df pr sp kY nY en ln) (hcl : cl ≤ st) (hst : st ≤ 300) (So : bl_So sp ss so po sc) (Co : bl_Co kX vX L cc cs cy cb sc cl) (P : bl_Po cl pl pk pv) (V : bl_Vo cl sc sv pk pv) (hd : d + 1 ≤ st) (hw : 3001 * sc + (3009 + s) ≤ 3010 * st) (S : bl_St kX vX L sc cl (bl_x fc fs fb fd fv fe kp kv) (bl_y gt ph ge gk gv bp ok ov ob) d h (fb d) s) (hg : bl_vg cl xg yk yv) (hr : r < 5) (ht : t < L r) (hfc : fc d = nI (48 * r + t)) (hgt : gt h = nI (bl_yb r + t)) (hge : fs d = ge h) (hfs : bl_sc sc (fs d)) (hob : fb d = ob h) (hk : kX (48 * r + t) = 6) (hfd : fd d = 0) (hph : ph h = 0) (hkp : kp d = -1) (hbp : bp h = -1) (hxb : xb = fb d) (hj : j < 4) (ej : vX (48 * r + t) = nI j) (hdf : df j = 0) (hln : ln j = 0) : ∃ u' v' q, q < 3010 * (300 - st) + (3009 + s) ∧ bl_RR L q u' v' ∧ (∀ post : SX → Prop, post u' → wpX_resumeFrame post (dl, lr, lc, (nI st), (nI (d + 1)), (nI cl), (nI sc), 1, xa, xs, xb, xg, 0, kX, vX, df, pr, sp, pl, th, fc, fs, fb, fd, fv, fe, kp, kv, cc, cs, ss, sv, so)) ∧ (∀ post : SY → Prop, post v' → wpY_give post ((nI sc), (nI cl), (nI (h + 1)), xb, (nI st), 0, ya, ys, yk, yv, yc, yt, rk, rv, kY, nY, en, ln, pr, sp, pk, pv, th, ss, po, so, cy, cb, cs, gt, ph, ge, gk, gv, bp, ok, ov, ob)) := by
  have K := C.1
  have p240 := bl_pX K hr ht
  have q240 := bl_pY K hr ht
  have kq := (bl_kY K hr ht).1
  have nq := (bl_kY K hr ht).2
  have tk := K.2.2 _ p240
  have R := C.2.1 r hr (by omega)
  have l48 := K.1 r hr
  have i240 : vp_in (nI (48 * r + t)) 240 := vp_in_nI p240 (by decide)
  have j240 : vp_in (nI (bl_yb r + t)) 240 := vp_in_nI q240 (by decide)
  have cp : (nI (48 * r + t)).toNatClampNeg = 48 * r + t := nI_clamp (by omega)
  have cq : (nI (bl_yb r + t)).toNatClampNeg = bl_yb r + t := nI_clamp (by omega)
  have hh := bl_St_le _ _ _ _ S
  have d3 : d < 300 := by omega
  have h3 : h < 320 := by omega
  have cd : (nI d).toNatClampNeg = d := nI_clamp (by omega)
  have ch : (nI h).toNatClampNeg = h := nI_clamp (by omega)
  have i3 : vp_in (nI d) 300 := vp_in_nI d3 (by decide)
  have j3 : vp_in (nI h) 320 := vp_in_nI h3 (by decide)
  have cl3 : cl < 1000 := by omega
  subst hxb
  have cj : (nI j).toNatClampNeg = j := nI_clamp (by omega)
  refine ⟨(dl, lr, lc, (nI st), (nI (d + 1)), (nI cl), (nI sc), 2, xa, xs, (fb d), xg, 3, kX, vX, df, pr, sp, pl, th, fc, fs, fb, (upd fd d 1), fv, fe, kp, kv, cc, cs, ss, sv, so), ((nI sc), (nI cl), (nI h), (fb d), (nI st), 2, ya, ys, yk, yv, 3, (-1), rk, rv, kY, nY, en, ln, pr, sp, pk, pv, th, ss, po, so, cy, cb, cs, gt, (upd ph h 1), ge, gk, gv, bp, ok, ov, ob), _, ?_, bl_mkN (s := 1 + s) C (by omega) hcl hst (by omega) So Co P V (Or.inr ⟨d, s, rfl, rfl, ⟨r, t, hr, ht, hfc, Or.inr (Or.inl hk), hkp, rfl⟩, bl_St_cg (Nat.le_refl _) (Nat.le_refl _) d h _ s (fun i hi => by simp only [bl_x, upd, vp_updL, if_neg (show ¬ i = d by omega)]) (fun i hi => by simp only [bl_y, upd, if_neg (show ¬ i = h by omega)]) S⟩) (Or.inl ⟨3, by omega, by omega, rfl, rfl, rfl⟩) rfl, fun post hp => ?_, fun post hp => ?_⟩
  · omega
  · refine nm_r (nI_pred d) ⟨i3, nm_r (e' := nI (48 * r + t)) (by rw [cd, hfc]) ⟨i3, i3, nm_r (e' := upd fd d 1) (by rw [cd, hfd]; rfl) ⟨i240, nm_r (e' := 6) (by rw [cp, hk]) (br_f (by decide) (br_f (by decide) (br_f (by decide) (br_f (by decide) (br_f (by decide) (br_f (by decide) (br_t rfl (⟨i240, ?_⟩))))))))⟩⟩⟩
    rw [cp, ej]
    exact ⟨i3, br_f (by rw [cd, pk_us]; decide) ⟨vp_in_nI hj (by decide), br_t (by rw [cj]; exact hdf) hp⟩⟩
  · refine nm_r (nI_pred h) ⟨j3, nm_r (e' := nI (bl_yb r + t)) (by rw [ch, hgt]) ⟨j240, nm_r (e' := 6) (by rw [cq, kq, hk]) ⟨j240, nm_r (e' := vX (48 * r + t)) (by rw [cq, nq]) ⟨j3, nm_r (e' := 0) (by rw [ch, hph]) ⟨j3, j3, nm_r (e' := upd ph h 1) (by rw [ch, hph]; rfl) (br_f (by decide) (br_t (by decide) (br_t rfl (br_f (by decide) (br_t rfl (br_f (by decide) (br_f (by decide) (br_f (by decide) (br_f (by decide) (br_f (by decide) (br_f (by decide) (br_f (by decide) (br_f (by decide) (br_t rfl (?_)))))))))))))))⟩⟩⟩⟩⟩
    rw [ej]
    exact ⟨vp_in_nI (by omega) (by decide), br_t (by rw [cj]; exact hln) (nm_r (nI_pred h) hp)⟩
theorem bl_G_named (C : bl_Cf L dl kX vX df pr sp kY nY en ln) (hcl : cl ≤ st) (hst : st ≤ 300) (So : bl_So sp ss so po sc) (Co : bl_Co kX vX L cc cs cy cb sc cl) (P : bl_Po cl pl pk pv) (V : bl_Vo cl sc sv pk pv) (hd : d + 1 ≤ st) (hw : 3001 * sc + (3009 + s) ≤ 3010 * st) (S : bl_St kX vX L sc cl (bl_x fc fs fb fd fv fe kp kv) (bl_y gt ph ge gk gv bp ok ov ob) d h (fb d) s) (hg : bl_vg cl xg yk yv) (hr : r < 5) (ht : t < L r) (hfc : fc d = nI (48 * r + t)) (hgt : gt h = nI (bl_yb r + t)) (hge : fs d = ge h) (hfs : bl_sc sc (fs d)) (hob : fb d = ob h) (hk : kX (48 * r + t) = 6) (hfd : fd d = 0) (hph : ph h = 0) (hkp : kp d = -1) (hbp : bp h = -1) (hxb : xb = fb d) (hm4 : m < 4) (em : vX (48 * r + t) = nI m) (hj : j < 8) (ej : pr m = nI j) (hdf : df m = 1) (hln : ln m = nI (L (m + 1))) (hL : 0 < L (m + 1)) : ∃ u' v' q, q < 3010 * (300 - st) + (3009 + s) ∧ bl_RR L q u' v' ∧ (∀ post : SX → Prop, post u' → wpX_resumeFrame post (dl, lr, lc, (nI st), (nI (d + 1)), (nI cl), (nI sc), 1, xa, xs, xb, xg, 0, kX, vX, df, pr, sp, pl, th, fc, fs, fb, fd, fv, fe, kp, kv, cc, cs, ss, sv, so)) ∧ (∀ post : SY → Prop, post v' → wpY_give post ((nI sc), (nI cl), (nI (h + 1)), xb, (nI st), 0, ya, ys, yk, yv, yc, yt, rk, rv, kY, nY, en, ln, pr, sp, pk, pv, th, ss, po, so, cy, cb, cs, gt, ph, ge, gk, gv, bp, ok, ov, ob)) := by
  have K := C.1
  have p240 := bl_pX K hr ht
  have q240 := bl_pY K hr ht
  have kq := (bl_kY K hr ht).1
  have nq := (bl_kY K hr ht).2
  have tk := K.2.2 _ p240
  have R := C.2.1 r hr (by omega)
  have l48 := K.1 r hr
  have i240 : vp_in (nI (48 * r + t)) 240 := vp_in_nI p240 (by decide)
  have j240 : vp_in (nI (bl_yb r + t)) 240 := vp_in_nI q240 (by decide)
  have cp : (nI (48 * r + t)).toNatClampNeg = 48 * r + t := nI_clamp (by omega)
  have cq : (nI (bl_yb r + t)).toNatClampNeg = bl_yb r + t := nI_clamp (by omega)
  have hh := bl_St_le _ _ _ _ S
  have d3 : d < 300 := by omega
  have h3 : h < 320 := by omega
  have cd : (nI d).toNatClampNeg = d := nI_clamp (by omega)
  have ch : (nI h).toNatClampNeg = h := nI_clamp (by omega)
  have i3 : vp_in (nI d) 300 := vp_in_nI d3 (by decide)
  have j3 : vp_in (nI h) 320 := vp_in_nI h3 (by decide)
  have cl3 : cl < 1000 := by omega
  obtain ⟨b, hb, eb⟩ := bl_St_b K _ _ _ _ S
  rw [eb] at hxb
  subst hxb
  have cm : (nI m).toNatClampNeg = m := nI_clamp (by omega)
  have lm := K.1 (m + 1) (by omega)
  obtain ⟨pl', pk', pv', ss', sv', so', po', kp', kv', bp', ok', ov', sc', i, So', P', V', s1, s2, hsi, hbd, hkk, hoo, hX, hY⟩ := bl_bind (dl := dl) (lr := lr) (lc := lc) (xst := nI st) (xcl := nI cl) (xm := 1) (xa := xa) (xs := xs) (xg := xg) (xe := 0) (kX := kX) (vX := vX) (df := df) (pr := pr) (sp := sp) (pl := pl) (th := th) (fc := fc) (fs := fs) (fb := fb) (fd := upd fd d 1) (fv := fv) (fe := fe) (kp := kp) (kv := kv) (cc := cc) (cs := cs) (ss := ss) (sv := sv) (so := so) (ycl := nI cl) (yw := nI (h + 1)) (ym := 0) (ya := ya) (ys := ys) (yk := yk) (yv := yv) (yc := yc) (yt := yt) (rk := rk) (rv := rv) (kY := kY) (nY := nY) (en := en) (ln := ln) (pk := pk) (pv := pv) (po := po) (cy := cy) (cb := cb) (gt := gt) (ph := upd ph h 1) (ge := ge) (gk := gk) (gv := gv) (bp := bp) (ok := ok) (ov := ov) (ob := ob) (d := d) (w := h) (j := j) (b := b) (o := (-1)) (tk := nI (bl_yb (m + 1) + 0)) So P V (by omega) d3 h3 hj hb (Or.inl rfl) hg hkp hbp
  have eX : (nI m + 1) * 48 = nI (48 * (m + 1) + 0) := by
    rw [nI_1, show (48 : Int32) = nI 48 from rfl, pk_mul, Nat.mul_comm]; rfl
  have eY : (48 : Int32) * nI m = nI (bl_yb (m + 1) + 0) := by
    rw [show (48 : Int32) = nI 48 from rfl, pk_mul]
    exact congrArg nI (by unfold bl_yb; rw [if_neg (by omega)]; omega)
  refine ⟨(dl, lr, lc, (nI st), (nI (d + 1)), (nI cl), (nI sc'), 0, (nI (48 * (m + 1) + 0)), i, (nI b), xg, 0, kX, vX, df, pr, sp, pl', th, fc, fs, fb, (upd fd d 1), fv, fe, kp', kv', cc, cs, ss', sv', so'), ((nI sc'), (nI cl), (nI (h + 1)), (nI b), (nI st), 1, (nI (bl_yb (m + 1) + 0)), i, yk, yv, yc, yt, rk, rv, kY, nY, en, ln, pr, sp, pk', pv', th, ss', po', so', cy, cb, cs, gt, (upd ph h 1), ge, gk, gv, bp', ok', ov', ob), _, ?_, bl_mkE (s := 6 + s) C (by omega) hcl hst (by omega) So' (bl_Co_up s1 Co) P' V' ?_ hsi (show m + 1 < 5 by omega) hL rfl, fun post hp => ?_, fun post hp => ?_⟩
  · omega
  · exact bl_St_mk (r := r) (t := t) (e := 1) hr ht hfc hgt hge (bl_sc_up s1 hfs) hob pk_us (by rw [hk]; decide) (by rw [hk, eb]; rfl) (Or.inr (Or.inl ⟨rfl, pk_us, Or.inr hk, hbd⟩)) (bl_St_cg s1 (Nat.le_refl _) d h _ s (fun i hi => by simp only [bl_x, upd, vp_updL, if_neg (show ¬ i = d by omega), (hkk i (by omega)).1, (hkk i (by omega)).2]) (fun i hi => by simp only [bl_y, upd, if_neg (show ¬ i = h by omega), (hoo i (by omega)).1, (hoo i (by omega)).2.1, (hoo i (by omega)).2.2]) S)
  · refine nm_r (nI_pred d) ⟨i3, nm_r (e' := nI (48 * r + t)) (by rw [cd, hfc]) ⟨i3, i3, nm_r (e' := upd fd d 1) (by rw [cd, hfd]; rfl) ⟨i240, nm_r (e' := 6) (by rw [cp, hk]) (br_f (by decide) (br_f (by decide) (br_f (by decide) (br_f (by decide) (br_f (by decide) (br_f (by decide) (br_t rfl (⟨i240, ?_⟩))))))))⟩⟩⟩
    rw [cp, em]
    refine ⟨i3, br_f (by rw [cd, pk_us]; decide) ⟨vp_in_nI hm4 (by decide), br_f (by rw [cm, hdf]; decide) ⟨vp_in_nI hm4 (by decide), ?_⟩⟩⟩
    rw [cm, ej]
    rw [← eX] at hp
    exact hX _ hp
  · refine nm_r (nI_pred h) ⟨j3, nm_r (e' := nI (bl_yb r + t)) (by rw [ch, hgt]) ⟨j240, nm_r (e' := 6) (by rw [cq, kq, hk]) ⟨j240, nm_r (e' := vX (48 * r + t)) (by rw [cq, nq]) ⟨j3, nm_r (e' := 0) (by rw [ch, hph]) ⟨j3, j3, nm_r (e' := upd ph h 1) (by rw [ch, hph]; rfl) (br_f (by decide) (br_t (by decide) (br_t rfl (br_f (by decide) (br_t rfl (br_f (by decide) (br_f (by decide) (br_f (by decide) (br_f (by decide) (br_f (by decide) (br_f (by decide) (br_f (by decide) (br_f (by decide) (br_t rfl (?_)))))))))))))))⟩⟩⟩⟩⟩
    rw [em]
    refine ⟨vp_in_nI (by omega) (by decide), br_f (by rw [cm, hln]; exact nI_ne0 hL (by omega)) ⟨vp_in_nI hm4 (by decide), ?_⟩⟩
    rw [cm, ej, eY]
    exact hY _ hp
theorem bl_lt_int (v : Int32) : v.toInt64 < (20000000000 : Int64) := Int64.not_le.mp (bl_int_nc v)
theorem bl_nlt_cl {n : Nat} (h : n < 1000) : ¬ 20000000000 + lN n < (20000000000 : Int64) := Int64.not_lt.mpr (bl_cl_c h)
theorem bl_G_type (C : bl_Cf L dl kX vX df pr sp kY nY en ln) (hcl : cl ≤ st) (hst : st ≤ 300) (So : bl_So sp ss so po sc) (Co : bl_Co kX vX L cc cs cy cb sc cl) (P : bl_Po cl pl pk pv) (V : bl_Vo cl sc sv pk pv) (hd : d + 1 ≤ st) (hw : 3001 * sc + (3007 + s) ≤ 3010 * st) (S : bl_St kX vX L sc cl (bl_x fc fs fb fd fv fe kp kv) (bl_y gt ph ge gk gv bp ok ov ob) d h (fb d) s) (hg : bl_vg cl xg yk yv) (hr : r < 5) (ht : t < L r) (hfc : fc d = nI (48 * r + t)) (hgt : gt h = nI (bl_yb r + t)) (hge : fs d = ge h) (hfs : bl_sc sc (fs d)) (hob : fb d = ob h) (hk : kX (48 * r + t) = 5) (hfd : fd d = 1) (hph : ph h = 1) (hkp : kp d = -1) (hbp : bp h = -1) (hxb : xb = fb d) (hgk : gk h = 0) (hfv : fv d = (gv h).toInt64) : ∃ u' v' q, q < 3010 * (300 - st) + (3007 + s) ∧ bl_RR L q u' v' ∧ (∀ post : SX → Prop, post u' → wpX_resumeFrame post (dl, lr, lc, (nI st), (nI (d + 1)), (nI cl), (nI sc), 1, xa, xs, xb, xg, 0, kX, vX, df, pr, sp, pl, th, fc, fs, fb, fd, fv, fe, kp, kv, cc, cs, ss, sv, so)) ∧ (∀ post : SY → Prop, post v' → wpY_give post ((nI sc), (nI cl), (nI (h + 1)), xb, (nI st), 0, ya, ys, yk, yv, yc, yt, rk, rv, kY, nY, en, ln, pr, sp, pk, pv, th, ss, po, so, cy, cb, cs, gt, ph, ge, gk, gv, bp, ok, ov, ob)) := by
  have K := C.1
  have p240 := bl_pX K hr ht
  have q240 := bl_pY K hr ht
  have kq := (bl_kY K hr ht).1
  have nq := (bl_kY K hr ht).2
  have tk := K.2.2 _ p240
  have R := C.2.1 r hr (by omega)
  have l48 := K.1 r hr
  have i240 : vp_in (nI (48 * r + t)) 240 := vp_in_nI p240 (by decide)
  have j240 : vp_in (nI (bl_yb r + t)) 240 := vp_in_nI q240 (by decide)
  have cp : (nI (48 * r + t)).toNatClampNeg = 48 * r + t := nI_clamp (by omega)
  have cq : (nI (bl_yb r + t)).toNatClampNeg = bl_yb r + t := nI_clamp (by omega)
  have hh := bl_St_le _ _ _ _ S
  have d3 : d < 300 := by omega
  have h3 : h < 320 := by omega
  have cd : (nI d).toNatClampNeg = d := nI_clamp (by omega)
  have ch : (nI h).toNatClampNeg = h := nI_clamp (by omega)
  have i3 : vp_in (nI d) 300 := vp_in_nI d3 (by decide)
  have j3 : vp_in (nI h) 320 := vp_in_nI h3 (by decide)
  have cl3 : cl < 1000 := by omega
  subst hxb
  refine ⟨(dl, lr, lc, (nI st), (nI (d + 1)), (nI cl), (nI sc), 2, xa, xs, (fb d), xg, 2, kX, vX, df, pr, sp, pl, th, fc, fs, fb, (upd fd d 2), fv, fe, kp, kv, cc, cs, ss, sv, so), ((nI sc), (nI cl), (nI h), (fb d), (nI st), 2, ya, ys, yk, yv, 2, (-1), rk, rv, kY, nY, en, ln, pr, sp, pk, pv, th, ss, po, so, cy, cb, cs, gt, (upd ph h 2), ge, gk, gv, bp, ok, ov, ob), _, ?_, bl_mkN (s := 1 + s) C (by omega) hcl hst (by omega) So Co P V (Or.inr ⟨d, s, rfl, rfl, ⟨r, t, hr, ht, hfc, Or.inl hk, hkp, rfl⟩, bl_St_cg (Nat.le_refl _) (Nat.le_refl _) d h _ s (fun i hi => by simp only [bl_x, upd, vp_updL, if_neg (show ¬ i = d by omega)]) (fun i hi => by simp only [bl_y, upd, if_neg (show ¬ i = h by omega)]) S⟩) (Or.inl ⟨2, by omega, by omega, rfl, rfl, rfl⟩) rfl, fun post hp => ?_, fun post hp => ?_⟩
  · omega
  · refine nm_r (nI_pred d) ⟨i3, nm_r (e' := nI (48 * r + t)) (by rw [cd, hfc]) ⟨i3, i3, nm_r (e' := upd fd d 2) (by rw [cd, hfd]; rfl) ⟨i240, nm_r (e' := 5) (by rw [cp, hk]) (br_f (by decide) (br_f (by decide) (br_f (by decide) (br_f (by decide) (br_f (by decide) (br_t rfl (⟨i3, br_f (by rw [cd, pk_us]; decide) ⟨i3, br_f (by rw [cd, pk_us]; decide) ⟨i3, ?_⟩⟩⟩)))))))⟩⟩⟩
    rw [cd, hfv]
    exact br_t (bl_lt_int _) (br_t rfl hp)
  · exact nm_r (nI_pred h) ⟨j3, nm_r (e' := nI (bl_yb r + t)) (by rw [ch, hgt]) ⟨j240, nm_r (e' := 5) (by rw [cq, kq, hk]) ⟨j240, nm_r (e' := vX (48 * r + t)) (by rw [cq, nq]) ⟨j3, nm_r (e' := 1) (by rw [ch, hph]) ⟨j3, j3, nm_r (e' := upd ph h 2) (by rw [ch, hph]; rfl) (br_t rfl (br_f (by decide) (br_t rfl (br_t rfl (br_t rfl (br_t rfl (br_t rfl (br_t rfl (br_t rfl (⟨j3, nm_e ⟨j3, br_f (by rw [ch, hgk]; decide) (nm_r (nI_pred h) hp)⟩⟩))))))))))⟩⟩⟩⟩⟩
section
variable {n r2 t2 : Nat}
theorem bl_G_call (C : bl_Cf L dl kX vX df pr sp kY nY en ln) (hcl : cl ≤ st) (hst : st ≤ 300) (So : bl_So sp ss so po sc) (Co : bl_Co kX vX L cc cs cy cb sc cl) (P : bl_Po cl pl pk pv) (V : bl_Vo cl sc sv pk pv) (hd : d + 1 ≤ st) (hw : 3001 * sc + (3007 + s) ≤ 3010 * st) (S : bl_St kX vX L sc cl (bl_x fc fs fb fd fv fe kp kv) (bl_y gt ph ge gk gv bp ok ov ob) d h (fb d) s) (hg : bl_vg cl xg yk yv) (hr : r < 5) (ht : t < L r) (hfc : fc d = nI (48 * r + t)) (hgt : gt h = nI (bl_yb r + t)) (hge : fs d = ge h) (hfs : bl_sc sc (fs d)) (hob : fb d = ob h) (hk : kX (48 * r + t) = 5) (hfd : fd d = 1) (hph : ph h = 1) (hkp : kp d = -1) (hbp : bp h = -1) (hxb : xb = fb d) (hn : n < cl) (hgk : gk h = 1) (hgv : gv h = nI n) (hfv : fv d = 20000000000 + lN n) : ∃ u' v' q, q < 3010 * (300 - st) + (3007 + s) ∧ bl_RR L q u' v' ∧ (∀ post : SX → Prop, post u' → wpX_resumeFrame post (dl, lr, lc, (nI st), (nI (d + 1)), (nI cl), (nI sc), 1, xa, xs, xb, xg, 0, kX, vX, df, pr, sp, pl, th, fc, fs, fb, fd, fv, fe, kp, kv, cc, cs, ss, sv, so)) ∧ (∀ post : SY → Prop, post v' → wpY_give post ((nI sc), (nI cl), (nI (h + 1)), xb, (nI st), 0, ya, ys, yk, yv, yc, yt, rk, rv, kY, nY, en, ln, pr, sp, pk, pv, th, ss, po, so, cy, cb, cs, gt, ph, ge, gk, gv, bp, ok, ov, ob)) := by
  have K := C.1
  have p240 := bl_pX K hr ht
  have q240 := bl_pY K hr ht
  have kq := (bl_kY K hr ht).1
  have nq := (bl_kY K hr ht).2
  have tk := K.2.2 _ p240
  have R := C.2.1 r hr (by omega)
  have l48 := K.1 r hr
  have i240 : vp_in (nI (48 * r + t)) 240 := vp_in_nI p240 (by decide)
  have j240 : vp_in (nI (bl_yb r + t)) 240 := vp_in_nI q240 (by decide)
  have cp : (nI (48 * r + t)).toNatClampNeg = 48 * r + t := nI_clamp (by omega)
  have cq : (nI (bl_yb r + t)).toNatClampNeg = bl_yb r + t := nI_clamp (by omega)
  have hh := bl_St_le _ _ _ _ S
  have d3 : d < 300 := by omega
  have h3 : h < 320 := by omega
  have cd : (nI d).toNatClampNeg = d := nI_clamp (by omega)
  have ch : (nI h).toNatClampNeg = h := nI_clamp (by omega)
  have i3 : vp_in (nI d) 300 := vp_in_nI d3 (by decide)
  have j3 : vp_in (nI h) 320 := vp_in_nI h3 (by decide)
  have cl3 : cl < 1000 := by omega
  obtain ⟨b, hb, eb⟩ := bl_St_b K _ _ _ _ S
  rw [eb] at hxb
  subst hxb
  obtain ⟨hcs, r2, t2, hr2, ht2, hcc, hk2, hcy, hcb⟩ := Co n hn
  have x2 := bl_pX K hr2 ht2
  have tk2 := K.2.2 _ x2
  have t21 := bl_p0 (C.2.1 r2 hr2 (by omega)) ht2 (by rw [hk2]; decide)
  obtain ⟨j, hj, ej⟩ := bl_tk8 tk2 (by rw [hk2]; decide)
  have cn : (nI n).toNatClampNeg = n := nI_clamp (by omega)
  have n3 : vp_in (nI n) 300 := vp_in_nI (by omega) (by decide)
  have n31 : vp_in (nI n) 310 := vp_in_nI (by omega) (by decide)
  obtain ⟨pl', pk', pv', ss', sv', so', po', kp', kv', bp', ok', ov', sc', i, So', P', V', s1, s2, hsi, hbd, hkk, hoo, hX, hY⟩ := bl_bind (dl := dl) (lr := lr) (lc := lc) (xst := nI st) (xcl := nI cl) (xm := 1) (xa := xa) (xs := xs) (xg := xg) (xe := 0) (kX := kX) (vX := vX) (df := df) (pr := pr) (sp := sp) (pl := pl) (th := th) (fc := fc) (fs := fs) (fb := fb) (fd := upd fd d 2) (fv := fv) (fe := fe) (kp := kp) (kv := kv) (cc := cc) (cs := cs) (ss := ss) (sv := sv) (so := so) (ycl := nI cl) (yw := nI (h + 1)) (ym := 0) (ya := ya) (ys := ys) (yk := yk) (yv := yv) (yc := yc) (yt := yt) (rk := rk) (rv := rv) (kY := kY) (nY := nY) (en := en) (ln := ln) (pk := pk) (pv := pv) (po := po) (cy := cy) (cb := cb) (gt := gt) (ph := upd ph h 2) (ge := ge) (gk := gk) (gv := gv) (bp := bp) (ok := ok) (ov := ov) (ob := ob) (d := d) (w := h) (j := j) (b := b) (o := cs n) (tk := nI (bl_yb r2 + (t2 + 1))) So P V (by omega) d3 h3 hj hb (hcs) hg hkp hbp
  refine ⟨(dl, lr, lc, (nI st), (nI (d + 1)), (nI cl), (nI sc'), 0, (nI (48 * r2 + (t2 + 1))), i, (nI b), xg, 0, kX, vX, df, pr, sp, pl', th, fc, fs, fb, (upd fd d 2), fv, fe, kp', kv', cc, cs, ss', sv', so'), ((nI sc'), (nI cl), (nI (h + 1)), (nI b), (nI st), 1, (nI (bl_yb r2 + (t2 + 1))), i, yk, yv, yc, yt, rk, rv, kY, nY, en, ln, pr, sp, pk', pv', th, ss', po', so', cy, cb, cs, gt, (upd ph h 2), ge, gk, gv, bp', ok', ov', ob), _, ?_, bl_mkE (s := 4 + s) C (by omega) hcl hst (by omega) So' (bl_Co_up s1 Co) P' V' ?_ hsi hr2 t21 rfl, fun post hp => ?_, fun post hp => ?_⟩
  · omega
  · exact bl_St_mk (r := r) (t := t) (e := 2) hr ht hfc hgt hge (bl_sc_up s1 hfs) hob pk_us (by rw [hk]; decide) (by rw [hk, eb]; rfl) (Or.inr (Or.inr (Or.inr (Or.inl ⟨rfl, pk_us, hk, hbd⟩)))) (bl_St_cg s1 (Nat.le_refl _) d h _ s (fun i hi => by simp only [bl_x, upd, vp_updL, if_neg (show ¬ i = d by omega), (hkk i (by omega)).1, (hkk i (by omega)).2]) (fun i hi => by simp only [bl_y, upd, if_neg (show ¬ i = h by omega), (hoo i (by omega)).1, (hoo i (by omega)).2.1, (hoo i (by omega)).2.2]) S)
  · refine nm_r (nI_pred d) ⟨i3, nm_r (e' := nI (48 * r + t)) (by rw [cd, hfc]) ⟨i3, i3, nm_r (e' := upd fd d 2) (by rw [cd, hfd]; rfl) ⟨i240, nm_r (e' := 5) (by rw [cp, hk]) (br_f (by decide) (br_f (by decide) (br_f (by decide) (br_f (by decide) (br_f (by decide) (br_t rfl (⟨i3, br_f (by rw [cd, pk_us]; decide) ⟨i3, br_f (by rw [cd, pk_us]; decide) ⟨i3, ?_⟩⟩⟩)))))))⟩⟩⟩
    rw [cd, hfv]
    refine br_f (bl_nlt_cl (by omega)) (br_f (by decide) ⟨i3, nm_r (e' := nI n) (bl_cl_sub n) ⟨n3, nm_r (e' := nI (48 * r2 + t2)) (by rw [cn, hcc]) ⟨vp_in_nI x2 (by decide), n3, ?_⟩⟩⟩)
    rw [nI_clamp (n := 48 * r2 + t2) (by omega), cn, ej]
    rw [show nI (48 * r2 + (t2 + 1)) = nI (48 * r2 + t2) + 1 from (nI_1 _).symm] at hp
    exact hX _ hp
  · refine nm_r (nI_pred h) ⟨j3, nm_r (e' := nI (bl_yb r + t)) (by rw [ch, hgt]) ⟨j240, nm_r (e' := 5) (by rw [cq, kq, hk]) ⟨j240, nm_r (e' := vX (48 * r + t)) (by rw [cq, nq]) ⟨j3, nm_r (e' := 1) (by rw [ch, hph]) ⟨j3, j3, nm_r (e' := upd ph h 2) (by rw [ch, hph]; rfl) (br_t rfl (br_f (by decide) (br_t rfl (br_t rfl (br_t rfl (br_t rfl (br_t rfl (br_t rfl (br_t rfl (⟨j3, nm_r (e' := nI n) (by rw [ch, hgv]) ⟨j3, br_t (by rw [ch]; exact hgk) ⟨n31, n31, n31, ?_⟩⟩⟩))))))))))⟩⟩⟩⟩⟩
    rw [cn, hcy, ej, hcb]
    exact hY _ hp
end
theorem bl_G_sum9 (C : bl_Cf L dl kX vX df pr sp kY nY en ln) (hcl : cl ≤ st) (hst : st ≤ 300) (So : bl_So sp ss so po sc) (Co : bl_Co kX vX L cc cs cy cb sc cl) (P : bl_Po cl pl pk pv) (V : bl_Vo cl sc sv pk pv) (hd : d + 1 ≤ st) (hw : 3001 * sc + (6 + s) ≤ 3010 * st) (S : bl_St kX vX L sc cl (bl_x fc fs fb fd fv fe kp kv) (bl_y gt ph ge gk gv bp ok ov ob) d h (fb d) s) (hg : bl_vg cl xg yk yv) (hr : r < 5) (ht : t < L r) (hfc : fc d = nI (48 * r + t)) (hgt : gt h = nI (bl_yb r + t)) (hge : fs d = ge h) (hfs : bl_sc sc (fs d)) (hob : fb d = ob h) (hk : kX (48 * r + t) = 9) (hfd : fd d = 1) (hph : ph h = 1) (hkp : kp d = -1) (hbp : bp h = -1) (hxb : xb = fb d) (hv : bl_vg cl (fv d) (gk h) (gv h)) : ∃ u' v' q, q < 3010 * (300 - st) + (6 + s) ∧ bl_RR L q u' v' ∧ (∀ post : SX → Prop, post u' → wpX_resumeFrame post (dl, lr, lc, (nI st), (nI (d + 1)), (nI cl), (nI sc), 1, xa, xs, xb, xg, 0, kX, vX, df, pr, sp, pl, th, fc, fs, fb, fd, fv, fe, kp, kv, cc, cs, ss, sv, so)) ∧ (∀ post : SY → Prop, post v' → wpY_give post ((nI sc), (nI cl), (nI (h + 1)), xb, (nI st), 0, ya, ys, yk, yv, yc, yt, rk, rv, kY, nY, en, ln, pr, sp, pk, pv, th, ss, po, so, cy, cb, cs, gt, ph, ge, gk, gv, bp, ok, ov, ob)) := by
  have K := C.1
  have p240 := bl_pX K hr ht
  have q240 := bl_pY K hr ht
  have kq := (bl_kY K hr ht).1
  have nq := (bl_kY K hr ht).2
  have tk := K.2.2 _ p240
  have R := C.2.1 r hr (by omega)
  have l48 := K.1 r hr
  have i240 : vp_in (nI (48 * r + t)) 240 := vp_in_nI p240 (by decide)
  have j240 : vp_in (nI (bl_yb r + t)) 240 := vp_in_nI q240 (by decide)
  have cp : (nI (48 * r + t)).toNatClampNeg = 48 * r + t := nI_clamp (by omega)
  have cq : (nI (bl_yb r + t)).toNatClampNeg = bl_yb r + t := nI_clamp (by omega)
  have hh := bl_St_le _ _ _ _ S
  have d3 : d < 300 := by omega
  have h3 : h < 320 := by omega
  have cd : (nI d).toNatClampNeg = d := nI_clamp (by omega)
  have ch : (nI h).toNatClampNeg = h := nI_clamp (by omega)
  have i3 : vp_in (nI d) 300 := vp_in_nI d3 (by decide)
  have j3 : vp_in (nI h) 320 := vp_in_nI h3 (by decide)
  have cl3 : cl < 1000 := by omega
  subst hxb
  have ty : (∀ post : SX → Prop, post (dl, lr, lc, (nI st), (nI (d + 1)), (nI cl), (nI sc), 2, xa, xs, (fb d), xg, 2, kX, vX, df, pr, sp, pl, th, fc, fs, fb, (upd fd d 2), fv, fe, kp, kv, cc, cs, ss, sv, so) → wpX_resumeFrame post (dl, lr, lc, (nI st), (nI (d + 1)), (nI cl), (nI sc), 1, xa, xs, (fb d), xg, 0, kX, vX, df, pr, sp, pl, th, fc, fs, fb, fd, fv, fe, kp, kv, cc, cs, ss, sv, so)) → (∀ post : SY → Prop, post ((nI sc), (nI cl), (nI h), (fb d), (nI st), 2, ya, ys, yk, yv, 2, (-1), rk, rv, kY, nY, en, ln, pr, sp, pk, pv, th, ss, po, so, cy, cb, cs, gt, (upd ph h 2), ge, gk, gv, bp, ok, ov, ob) → wpY_give post ((nI sc), (nI cl), (nI (h + 1)), (fb d), (nI st), 0, ya, ys, yk, yv, yc, yt, rk, rv, kY, nY, en, ln, pr, sp, pk, pv, th, ss, po, so, cy, cb, cs, gt, ph, ge, gk, gv, bp, ok, ov, ob)) → ∃ u' v' q, q < 3010 * (300 - st) + (6 + s) ∧ bl_RR L q u' v' ∧ (∀ post : SX → Prop, post u' → wpX_resumeFrame post (dl, lr, lc, (nI st), (nI (d + 1)), (nI cl), (nI sc), 1, xa, xs, (fb d), xg, 0, kX, vX, df, pr, sp, pl, th, fc, fs, fb, fd, fv, fe, kp, kv, cc, cs, ss, sv, so)) ∧ (∀ post : SY → Prop, post v' → wpY_give post ((nI sc), (nI cl), (nI (h + 1)), (fb d), (nI st), 0, ya, ys, yk, yv, yc, yt, rk, rv, kY, nY, en, ln, pr, sp, pk, pv, th, ss, po, so, cy, cb, cs, gt, ph, ge, gk, gv, bp, ok, ov, ob)) := by
    intro hX hY
    exact ⟨_, _, _, by omega, bl_mkN (s := 1 + s) C (by omega) hcl hst (by omega) So Co P V (Or.inr ⟨d, s, rfl, rfl, ⟨r, t, hr, ht, hfc, Or.inr (Or.inr (Or.inl hk)), hkp, rfl⟩, bl_St_cg (Nat.le_refl _) (Nat.le_refl _) d h _ s (fun i hi => by simp only [bl_x, upd, vp_updL, if_neg (show ¬ i = d by omega)]) (fun i hi => by simp only [bl_y, upd, if_neg (show ¬ i = h by omega)]) S⟩) (Or.inl ⟨2, by omega, by omega, rfl, rfl, rfl⟩) rfl, hX, hY⟩
  rcases hv with ⟨hgk, hfv⟩ | ⟨hgk, n, hn, hgv, hfv⟩
  · rcases hg with ⟨hyk, hxg⟩ | ⟨hyk, n, hn, hyv, hxg⟩
    · subst hxg
      refine ⟨(dl, lr, lc, (nI st), (nI d), (nI cl), (nI sc), 1, xa, xs, (fb d), (gv h + yv).toInt64, 0, kX, vX, df, pr, sp, pl, th, fc, fs, fb, (upd fd d 2), fv, fe, kp, kv, cc, cs, ss, sv, so), ((nI sc), (nI cl), (nI h), (fb d), (nI st), 0, ya, ys, 0, (gv h + yv), yc, yt, rk, rv, kY, nY, en, ln, pr, sp, pk, pv, th, ss, po, so, cy, cb, cs, gt, (upd ph h 2), ge, gk, gv, bp, ok, ov, ob), _, ?_, bl_mkG (s := s) C (by omega) hcl hst (by omega) So Co P V (bl_St_cg (Nat.le_refl _) (Nat.le_refl _) d h _ s (fun i hi => by simp only [bl_x, upd, vp_updL, if_neg (show ¬ i = d by omega)]) (fun i hi => by simp only [bl_y, upd, if_neg (show ¬ i = h by omega)]) S) (Or.inl ⟨rfl, rfl⟩) rfl, fun post hp => ?_, fun post hp => ?_⟩
      · omega
      · refine nm_r (nI_pred d) ⟨i3, nm_r (e' := nI (48 * r + t)) (by rw [cd, hfc]) ⟨i3, i3, nm_r (e' := upd fd d 2) (by rw [cd, hfd]; rfl) ⟨i240, nm_r (e' := 9) (by rw [cp, hk]) (br_f (by decide) (br_f (by decide) (br_f (by decide) (br_f (by decide) (br_f (by decide) (br_f (by decide) (br_f (by decide) (br_f (by decide) (br_f (by decide) (br_t rfl (⟨i240, ⟨i3, br_f (by rw [cd, pk_us]; decide) ⟨i3, nm_r (e' := fv d) (by rw [cd]) ?_⟩⟩⟩)))))))))))⟩⟩⟩
        rw [hfv]
        refine br_t (bl_lt_int _) (br_t rfl (br_t (bl_lt_int _) (br_t rfl (bl_x_cl1 d3 hkp (br_f (by rw [cp, hk]; decide) (br_t (by rw [cp, hk]) ?_))))))
        rw [show gv h + yv = ((gv h).toInt64 + yv.toInt64).toInt32 from by rw [Int64.toInt32_add, Int32.toInt32_toInt64, Int32.toInt32_toInt64]] at hp
        exact hp
      · refine nm_r (nI_pred h) ⟨j3, nm_r (e' := nI (bl_yb r + t)) (by rw [ch, hgt]) ⟨j240, nm_r (e' := 9) (by rw [cq, kq, hk]) ⟨j240, nm_r (e' := vX (48 * r + t)) (by rw [cq, nq]) ⟨j3, nm_r (e' := 1) (by rw [ch, hph]) ⟨j3, j3, nm_r (e' := upd ph h 2) (by rw [ch, hph]; rfl) (br_f (by decide) (br_f (by decide) (br_f (by decide) (br_f (by decide) (br_t rfl (br_t rfl (br_t rfl (br_t rfl (br_t rfl (br_t rfl (br_f (by decide) (nm_r (nI_pred h) (bl_y_gb1 h3 hbp ⟨j3, nm_r (e' := fb d) (by rw [ch, hob]) (br_f (by decide) (br_f (by decide) (br_f (by decide) (br_f (by decide) (⟨j3, nm_r (e' := gv h) (by rw [ch]) ⟨j3, ?_⟩⟩)))))⟩)))))))))))))⟩⟩⟩⟩⟩
        rw [ch]
        exact br_t hgk (br_t hyk (br_t rfl hp))
    · refine ty (fun post hp => ?_) (fun post hp => ?_)
      · refine nm_r (nI_pred d) ⟨i3, nm_r (e' := nI (48 * r + t)) (by rw [cd, hfc]) ⟨i3, i3, nm_r (e' := upd fd d 2) (by rw [cd, hfd]; rfl) ⟨i240, nm_r (e' := 9) (by rw [cp, hk]) (br_f (by decide) (br_f (by decide) (br_f (by decide) (br_f (by decide) (br_f (by decide) (br_f (by decide) (br_f (by decide) (br_f (by decide) (br_f (by decide) (br_t rfl (⟨i240, ⟨i3, br_f (by rw [cd, pk_us]; decide) ⟨i3, nm_r (e' := fv d) (by rw [cd]) ?_⟩⟩⟩)))))))))))⟩⟩⟩
        rw [hfv]
        refine br_t (bl_lt_int _) (br_t rfl (br_f ?_ (br_f (by decide) hp)))
        rw [hxg]; exact bl_nlt_cl (by omega)
      · refine nm_r (nI_pred h) ⟨j3, nm_r (e' := nI (bl_yb r + t)) (by rw [ch, hgt]) ⟨j240, nm_r (e' := 9) (by rw [cq, kq, hk]) ⟨j240, nm_r (e' := vX (48 * r + t)) (by rw [cq, nq]) ⟨j3, nm_r (e' := 1) (by rw [ch, hph]) ⟨j3, j3, nm_r (e' := upd ph h 2) (by rw [ch, hph]; rfl) (br_f (by decide) (br_f (by decide) (br_f (by decide) (br_f (by decide) (br_t rfl (br_t rfl (br_t rfl (br_t rfl (br_t rfl (br_t rfl (br_f (by decide) (nm_r (nI_pred h) (bl_y_gb1 h3 hbp ⟨j3, nm_r (e' := fb d) (by rw [ch, hob]) (br_f (by decide) (br_f (by decide) (br_f (by decide) (br_f (by decide) (⟨j3, nm_r (e' := gv h) (by rw [ch]) ⟨j3, ?_⟩⟩)))))⟩)))))))))))))⟩⟩⟩⟩⟩
        rw [ch]
        exact br_t hgk (br_f (by rw [hyk]; decide) hp)
  · refine ty (fun post hp => ?_) (fun post hp => ?_)
    · refine nm_r (nI_pred d) ⟨i3, nm_r (e' := nI (48 * r + t)) (by rw [cd, hfc]) ⟨i3, i3, nm_r (e' := upd fd d 2) (by rw [cd, hfd]; rfl) ⟨i240, nm_r (e' := 9) (by rw [cp, hk]) (br_f (by decide) (br_f (by decide) (br_f (by decide) (br_f (by decide) (br_f (by decide) (br_f (by decide) (br_f (by decide) (br_f (by decide) (br_f (by decide) (br_t rfl (⟨i240, ⟨i3, br_f (by rw [cd, pk_us]; decide) ⟨i3, nm_r (e' := fv d) (by rw [cd]) ?_⟩⟩⟩)))))))))))⟩⟩⟩
      rw [hfv]
      exact br_f (bl_nlt_cl (by omega)) (br_f (by decide) hp)
    · refine nm_r (nI_pred h) ⟨j3, nm_r (e' := nI (bl_yb r + t)) (by rw [ch, hgt]) ⟨j240, nm_r (e' := 9) (by rw [cq, kq, hk]) ⟨j240, nm_r (e' := vX (48 * r + t)) (by rw [cq, nq]) ⟨j3, nm_r (e' := 1) (by rw [ch, hph]) ⟨j3, j3, nm_r (e' := upd ph h 2) (by rw [ch, hph]; rfl) (br_f (by decide) (br_f (by decide) (br_f (by decide) (br_f (by decide) (br_t rfl (br_t rfl (br_t rfl (br_t rfl (br_t rfl (br_t rfl (br_f (by decide) (nm_r (nI_pred h) (bl_y_gb1 h3 hbp ⟨j3, nm_r (e' := fb d) (by rw [ch, hob]) (br_f (by decide) (br_f (by decide) (br_f (by decide) (br_f (by decide) (⟨j3, nm_r (e' := gv h) (by rw [ch]) ⟨j3, ?_⟩⟩)))))⟩)))))))))))))⟩⟩⟩⟩⟩
      rw [ch]
      exact br_f (by rw [hgk]; decide) hp
theorem bl_G_sum10 (C : bl_Cf L dl kX vX df pr sp kY nY en ln) (hcl : cl ≤ st) (hst : st ≤ 300) (So : bl_So sp ss so po sc) (Co : bl_Co kX vX L cc cs cy cb sc cl) (P : bl_Po cl pl pk pv) (V : bl_Vo cl sc sv pk pv) (hd : d + 1 ≤ st) (hw : 3001 * sc + (6 + s) ≤ 3010 * st) (S : bl_St kX vX L sc cl (bl_x fc fs fb fd fv fe kp kv) (bl_y gt ph ge gk gv bp ok ov ob) d h (fb d) s) (hg : bl_vg cl xg yk yv) (hr : r < 5) (ht : t < L r) (hfc : fc d = nI (48 * r + t)) (hgt : gt h = nI (bl_yb r + t)) (hge : fs d = ge h) (hfs : bl_sc sc (fs d)) (hob : fb d = ob h) (hk : kX (48 * r + t) = 10) (hfd : fd d = 1) (hph : ph h = 1) (hkp : kp d = -1) (hbp : bp h = -1) (hxb : xb = fb d) (hv : bl_vg cl (fv d) (gk h) (gv h)) : ∃ u' v' q, q < 3010 * (300 - st) + (6 + s) ∧ bl_RR L q u' v' ∧ (∀ post : SX → Prop, post u' → wpX_resumeFrame post (dl, lr, lc, (nI st), (nI (d + 1)), (nI cl), (nI sc), 1, xa, xs, xb, xg, 0, kX, vX, df, pr, sp, pl, th, fc, fs, fb, fd, fv, fe, kp, kv, cc, cs, ss, sv, so)) ∧ (∀ post : SY → Prop, post v' → wpY_give post ((nI sc), (nI cl), (nI (h + 1)), xb, (nI st), 0, ya, ys, yk, yv, yc, yt, rk, rv, kY, nY, en, ln, pr, sp, pk, pv, th, ss, po, so, cy, cb, cs, gt, ph, ge, gk, gv, bp, ok, ov, ob)) := by
  have K := C.1
  have p240 := bl_pX K hr ht
  have q240 := bl_pY K hr ht
  have kq := (bl_kY K hr ht).1
  have nq := (bl_kY K hr ht).2
  have tk := K.2.2 _ p240
  have R := C.2.1 r hr (by omega)
  have l48 := K.1 r hr
  have i240 : vp_in (nI (48 * r + t)) 240 := vp_in_nI p240 (by decide)
  have j240 : vp_in (nI (bl_yb r + t)) 240 := vp_in_nI q240 (by decide)
  have cp : (nI (48 * r + t)).toNatClampNeg = 48 * r + t := nI_clamp (by omega)
  have cq : (nI (bl_yb r + t)).toNatClampNeg = bl_yb r + t := nI_clamp (by omega)
  have hh := bl_St_le _ _ _ _ S
  have d3 : d < 300 := by omega
  have h3 : h < 320 := by omega
  have cd : (nI d).toNatClampNeg = d := nI_clamp (by omega)
  have ch : (nI h).toNatClampNeg = h := nI_clamp (by omega)
  have i3 : vp_in (nI d) 300 := vp_in_nI d3 (by decide)
  have j3 : vp_in (nI h) 320 := vp_in_nI h3 (by decide)
  have cl3 : cl < 1000 := by omega
  subst hxb
  have ty : (∀ post : SX → Prop, post (dl, lr, lc, (nI st), (nI (d + 1)), (nI cl), (nI sc), 2, xa, xs, (fb d), xg, 2, kX, vX, df, pr, sp, pl, th, fc, fs, fb, (upd fd d 2), fv, fe, kp, kv, cc, cs, ss, sv, so) → wpX_resumeFrame post (dl, lr, lc, (nI st), (nI (d + 1)), (nI cl), (nI sc), 1, xa, xs, (fb d), xg, 0, kX, vX, df, pr, sp, pl, th, fc, fs, fb, fd, fv, fe, kp, kv, cc, cs, ss, sv, so)) → (∀ post : SY → Prop, post ((nI sc), (nI cl), (nI h), (fb d), (nI st), 2, ya, ys, yk, yv, 2, (-1), rk, rv, kY, nY, en, ln, pr, sp, pk, pv, th, ss, po, so, cy, cb, cs, gt, (upd ph h 2), ge, gk, gv, bp, ok, ov, ob) → wpY_give post ((nI sc), (nI cl), (nI (h + 1)), (fb d), (nI st), 0, ya, ys, yk, yv, yc, yt, rk, rv, kY, nY, en, ln, pr, sp, pk, pv, th, ss, po, so, cy, cb, cs, gt, ph, ge, gk, gv, bp, ok, ov, ob)) → ∃ u' v' q, q < 3010 * (300 - st) + (6 + s) ∧ bl_RR L q u' v' ∧ (∀ post : SX → Prop, post u' → wpX_resumeFrame post (dl, lr, lc, (nI st), (nI (d + 1)), (nI cl), (nI sc), 1, xa, xs, (fb d), xg, 0, kX, vX, df, pr, sp, pl, th, fc, fs, fb, fd, fv, fe, kp, kv, cc, cs, ss, sv, so)) ∧ (∀ post : SY → Prop, post v' → wpY_give post ((nI sc), (nI cl), (nI (h + 1)), (fb d), (nI st), 0, ya, ys, yk, yv, yc, yt, rk, rv, kY, nY, en, ln, pr, sp, pk, pv, th, ss, po, so, cy, cb, cs, gt, ph, ge, gk, gv, bp, ok, ov, ob)) := by
    intro hX hY
    exact ⟨_, _, _, by omega, bl_mkN (s := 1 + s) C (by omega) hcl hst (by omega) So Co P V (Or.inr ⟨d, s, rfl, rfl, ⟨r, t, hr, ht, hfc, Or.inr (Or.inr (Or.inr (Or.inl hk))), hkp, rfl⟩, bl_St_cg (Nat.le_refl _) (Nat.le_refl _) d h _ s (fun i hi => by simp only [bl_x, upd, vp_updL, if_neg (show ¬ i = d by omega)]) (fun i hi => by simp only [bl_y, upd, if_neg (show ¬ i = h by omega)]) S⟩) (Or.inl ⟨2, by omega, by omega, rfl, rfl, rfl⟩) rfl, hX, hY⟩
  rcases hv with ⟨hgk, hfv⟩ | ⟨hgk, n, hn, hgv, hfv⟩
  · rcases hg with ⟨hyk, hxg⟩ | ⟨hyk, n, hn, hyv, hxg⟩
    · subst hxg
      refine ⟨(dl, lr, lc, (nI st), (nI d), (nI cl), (nI sc), 1, xa, xs, (fb d), (gv h - yv).toInt64, 0, kX, vX, df, pr, sp, pl, th, fc, fs, fb, (upd fd d 2), fv, fe, kp, kv, cc, cs, ss, sv, so), ((nI sc), (nI cl), (nI h), (fb d), (nI st), 0, ya, ys, 0, (gv h - yv), yc, yt, rk, rv, kY, nY, en, ln, pr, sp, pk, pv, th, ss, po, so, cy, cb, cs, gt, (upd ph h 2), ge, gk, gv, bp, ok, ov, ob), _, ?_, bl_mkG (s := s) C (by omega) hcl hst (by omega) So Co P V (bl_St_cg (Nat.le_refl _) (Nat.le_refl _) d h _ s (fun i hi => by simp only [bl_x, upd, vp_updL, if_neg (show ¬ i = d by omega)]) (fun i hi => by simp only [bl_y, upd, if_neg (show ¬ i = h by omega)]) S) (Or.inl ⟨rfl, rfl⟩) rfl, fun post hp => ?_, fun post hp => ?_⟩
      · omega
      · refine nm_r (nI_pred d) ⟨i3, nm_r (e' := nI (48 * r + t)) (by rw [cd, hfc]) ⟨i3, i3, nm_r (e' := upd fd d 2) (by rw [cd, hfd]; rfl) ⟨i240, nm_r (e' := 10) (by rw [cp, hk]) (br_f (by decide) (br_f (by decide) (br_f (by decide) (br_f (by decide) (br_f (by decide) (br_f (by decide) (br_f (by decide) (br_f (by decide) (br_f (by decide) (br_f (by decide) (br_t rfl (⟨i240, ⟨i3, br_f (by rw [cd, pk_us]; decide) ⟨i3, nm_r (e' := fv d) (by rw [cd]) ?_⟩⟩⟩))))))))))))⟩⟩⟩
        rw [hfv]
        refine br_t (bl_lt_int _) (br_t rfl (br_t (bl_lt_int _) (br_t rfl (bl_x_cl1 d3 hkp (br_f (by rw [cp, hk]; decide) (br_f (by rw [cp, hk]; decide) ?_))))))
        rw [show gv h - yv = ((gv h).toInt64 - yv.toInt64).toInt32 from by rw [Int64.toInt32_sub, Int32.toInt32_toInt64, Int32.toInt32_toInt64]] at hp
        exact hp
      · refine nm_r (nI_pred h) ⟨j3, nm_r (e' := nI (bl_yb r + t)) (by rw [ch, hgt]) ⟨j240, nm_r (e' := 10) (by rw [cq, kq, hk]) ⟨j240, nm_r (e' := vX (48 * r + t)) (by rw [cq, nq]) ⟨j3, nm_r (e' := 1) (by rw [ch, hph]) ⟨j3, j3, nm_r (e' := upd ph h 2) (by rw [ch, hph]; rfl) (br_f (by decide) (br_f (by decide) (br_f (by decide) (br_f (by decide) (br_t rfl (br_t rfl (br_t rfl (br_t rfl (br_t rfl (br_t rfl (br_f (by decide) (nm_r (nI_pred h) (bl_y_gb1 h3 hbp ⟨j3, nm_r (e' := fb d) (by rw [ch, hob]) (br_f (by decide) (br_f (by decide) (br_f (by decide) (br_f (by decide) (⟨j3, nm_r (e' := gv h) (by rw [ch]) ⟨j3, ?_⟩⟩)))))⟩)))))))))))))⟩⟩⟩⟩⟩
        rw [ch]
        exact br_t hgk (br_t hyk (br_f (by decide) (br_f (by decide) hp)))
    · refine ty (fun post hp => ?_) (fun post hp => ?_)
      · refine nm_r (nI_pred d) ⟨i3, nm_r (e' := nI (48 * r + t)) (by rw [cd, hfc]) ⟨i3, i3, nm_r (e' := upd fd d 2) (by rw [cd, hfd]; rfl) ⟨i240, nm_r (e' := 10) (by rw [cp, hk]) (br_f (by decide) (br_f (by decide) (br_f (by decide) (br_f (by decide) (br_f (by decide) (br_f (by decide) (br_f (by decide) (br_f (by decide) (br_f (by decide) (br_f (by decide) (br_t rfl (⟨i240, ⟨i3, br_f (by rw [cd, pk_us]; decide) ⟨i3, nm_r (e' := fv d) (by rw [cd]) ?_⟩⟩⟩))))))))))))⟩⟩⟩
        rw [hfv]
        refine br_t (bl_lt_int _) (br_t rfl (br_f ?_ (br_f (by decide) hp)))
        rw [hxg]; exact bl_nlt_cl (by omega)
      · refine nm_r (nI_pred h) ⟨j3, nm_r (e' := nI (bl_yb r + t)) (by rw [ch, hgt]) ⟨j240, nm_r (e' := 10) (by rw [cq, kq, hk]) ⟨j240, nm_r (e' := vX (48 * r + t)) (by rw [cq, nq]) ⟨j3, nm_r (e' := 1) (by rw [ch, hph]) ⟨j3, j3, nm_r (e' := upd ph h 2) (by rw [ch, hph]; rfl) (br_f (by decide) (br_f (by decide) (br_f (by decide) (br_f (by decide) (br_t rfl (br_t rfl (br_t rfl (br_t rfl (br_t rfl (br_t rfl (br_f (by decide) (nm_r (nI_pred h) (bl_y_gb1 h3 hbp ⟨j3, nm_r (e' := fb d) (by rw [ch, hob]) (br_f (by decide) (br_f (by decide) (br_f (by decide) (br_f (by decide) (⟨j3, nm_r (e' := gv h) (by rw [ch]) ⟨j3, ?_⟩⟩)))))⟩)))))))))))))⟩⟩⟩⟩⟩
        rw [ch]
        exact br_t hgk (br_f (by rw [hyk]; decide) hp)
  · refine ty (fun post hp => ?_) (fun post hp => ?_)
    · refine nm_r (nI_pred d) ⟨i3, nm_r (e' := nI (48 * r + t)) (by rw [cd, hfc]) ⟨i3, i3, nm_r (e' := upd fd d 2) (by rw [cd, hfd]; rfl) ⟨i240, nm_r (e' := 10) (by rw [cp, hk]) (br_f (by decide) (br_f (by decide) (br_f (by decide) (br_f (by decide) (br_f (by decide) (br_f (by decide) (br_f (by decide) (br_f (by decide) (br_f (by decide) (br_f (by decide) (br_t rfl (⟨i240, ⟨i3, br_f (by rw [cd, pk_us]; decide) ⟨i3, nm_r (e' := fv d) (by rw [cd]) ?_⟩⟩⟩))))))))))))⟩⟩⟩
      rw [hfv]
      exact br_f (bl_nlt_cl (by omega)) (br_f (by decide) hp)
    · refine nm_r (nI_pred h) ⟨j3, nm_r (e' := nI (bl_yb r + t)) (by rw [ch, hgt]) ⟨j240, nm_r (e' := 10) (by rw [cq, kq, hk]) ⟨j240, nm_r (e' := vX (48 * r + t)) (by rw [cq, nq]) ⟨j3, nm_r (e' := 1) (by rw [ch, hph]) ⟨j3, j3, nm_r (e' := upd ph h 2) (by rw [ch, hph]; rfl) (br_f (by decide) (br_f (by decide) (br_f (by decide) (br_f (by decide) (br_t rfl (br_t rfl (br_t rfl (br_t rfl (br_t rfl (br_t rfl (br_f (by decide) (nm_r (nI_pred h) (bl_y_gb1 h3 hbp ⟨j3, nm_r (e' := fb d) (by rw [ch, hob]) (br_f (by decide) (br_f (by decide) (br_f (by decide) (br_f (by decide) (⟨j3, nm_r (e' := gv h) (by rw [ch]) ⟨j3, ?_⟩⟩)))))⟩)))))))))))))⟩⟩⟩⟩⟩
      rw [ch]
      exact br_f (by rw [hgk]; decide) hp
theorem bl_G_sum11 (C : bl_Cf L dl kX vX df pr sp kY nY en ln) (hcl : cl ≤ st) (hst : st ≤ 300) (So : bl_So sp ss so po sc) (Co : bl_Co kX vX L cc cs cy cb sc cl) (P : bl_Po cl pl pk pv) (V : bl_Vo cl sc sv pk pv) (hd : d + 1 ≤ st) (hw : 3001 * sc + (6 + s) ≤ 3010 * st) (S : bl_St kX vX L sc cl (bl_x fc fs fb fd fv fe kp kv) (bl_y gt ph ge gk gv bp ok ov ob) d h (fb d) s) (hg : bl_vg cl xg yk yv) (hr : r < 5) (ht : t < L r) (hfc : fc d = nI (48 * r + t)) (hgt : gt h = nI (bl_yb r + t)) (hge : fs d = ge h) (hfs : bl_sc sc (fs d)) (hob : fb d = ob h) (hk : kX (48 * r + t) = 11) (hfd : fd d = 1) (hph : ph h = 1) (hkp : kp d = -1) (hbp : bp h = -1) (hxb : xb = fb d) (hv : bl_vg cl (fv d) (gk h) (gv h)) : ∃ u' v' q, q < 3010 * (300 - st) + (6 + s) ∧ bl_RR L q u' v' ∧ (∀ post : SX → Prop, post u' → wpX_resumeFrame post (dl, lr, lc, (nI st), (nI (d + 1)), (nI cl), (nI sc), 1, xa, xs, xb, xg, 0, kX, vX, df, pr, sp, pl, th, fc, fs, fb, fd, fv, fe, kp, kv, cc, cs, ss, sv, so)) ∧ (∀ post : SY → Prop, post v' → wpY_give post ((nI sc), (nI cl), (nI (h + 1)), xb, (nI st), 0, ya, ys, yk, yv, yc, yt, rk, rv, kY, nY, en, ln, pr, sp, pk, pv, th, ss, po, so, cy, cb, cs, gt, ph, ge, gk, gv, bp, ok, ov, ob)) := by
  have K := C.1
  have p240 := bl_pX K hr ht
  have q240 := bl_pY K hr ht
  have kq := (bl_kY K hr ht).1
  have nq := (bl_kY K hr ht).2
  have tk := K.2.2 _ p240
  have R := C.2.1 r hr (by omega)
  have l48 := K.1 r hr
  have i240 : vp_in (nI (48 * r + t)) 240 := vp_in_nI p240 (by decide)
  have j240 : vp_in (nI (bl_yb r + t)) 240 := vp_in_nI q240 (by decide)
  have cp : (nI (48 * r + t)).toNatClampNeg = 48 * r + t := nI_clamp (by omega)
  have cq : (nI (bl_yb r + t)).toNatClampNeg = bl_yb r + t := nI_clamp (by omega)
  have hh := bl_St_le _ _ _ _ S
  have d3 : d < 300 := by omega
  have h3 : h < 320 := by omega
  have cd : (nI d).toNatClampNeg = d := nI_clamp (by omega)
  have ch : (nI h).toNatClampNeg = h := nI_clamp (by omega)
  have i3 : vp_in (nI d) 300 := vp_in_nI d3 (by decide)
  have j3 : vp_in (nI h) 320 := vp_in_nI h3 (by decide)
  have cl3 : cl < 1000 := by omega
  subst hxb
  have ty : (∀ post : SX → Prop, post (dl, lr, lc, (nI st), (nI (d + 1)), (nI cl), (nI sc), 2, xa, xs, (fb d), xg, 2, kX, vX, df, pr, sp, pl, th, fc, fs, fb, (upd fd d 2), fv, fe, kp, kv, cc, cs, ss, sv, so) → wpX_resumeFrame post (dl, lr, lc, (nI st), (nI (d + 1)), (nI cl), (nI sc), 1, xa, xs, (fb d), xg, 0, kX, vX, df, pr, sp, pl, th, fc, fs, fb, fd, fv, fe, kp, kv, cc, cs, ss, sv, so)) → (∀ post : SY → Prop, post ((nI sc), (nI cl), (nI h), (fb d), (nI st), 2, ya, ys, yk, yv, 2, (-1), rk, rv, kY, nY, en, ln, pr, sp, pk, pv, th, ss, po, so, cy, cb, cs, gt, (upd ph h 2), ge, gk, gv, bp, ok, ov, ob) → wpY_give post ((nI sc), (nI cl), (nI (h + 1)), (fb d), (nI st), 0, ya, ys, yk, yv, yc, yt, rk, rv, kY, nY, en, ln, pr, sp, pk, pv, th, ss, po, so, cy, cb, cs, gt, ph, ge, gk, gv, bp, ok, ov, ob)) → ∃ u' v' q, q < 3010 * (300 - st) + (6 + s) ∧ bl_RR L q u' v' ∧ (∀ post : SX → Prop, post u' → wpX_resumeFrame post (dl, lr, lc, (nI st), (nI (d + 1)), (nI cl), (nI sc), 1, xa, xs, (fb d), xg, 0, kX, vX, df, pr, sp, pl, th, fc, fs, fb, fd, fv, fe, kp, kv, cc, cs, ss, sv, so)) ∧ (∀ post : SY → Prop, post v' → wpY_give post ((nI sc), (nI cl), (nI (h + 1)), (fb d), (nI st), 0, ya, ys, yk, yv, yc, yt, rk, rv, kY, nY, en, ln, pr, sp, pk, pv, th, ss, po, so, cy, cb, cs, gt, ph, ge, gk, gv, bp, ok, ov, ob)) := by
    intro hX hY
    exact ⟨_, _, _, by omega, bl_mkN (s := 1 + s) C (by omega) hcl hst (by omega) So Co P V (Or.inr ⟨d, s, rfl, rfl, ⟨r, t, hr, ht, hfc, Or.inr (Or.inr (Or.inr (Or.inr (Or.inl hk)))), hkp, rfl⟩, bl_St_cg (Nat.le_refl _) (Nat.le_refl _) d h _ s (fun i hi => by simp only [bl_x, upd, vp_updL, if_neg (show ¬ i = d by omega)]) (fun i hi => by simp only [bl_y, upd, if_neg (show ¬ i = h by omega)]) S⟩) (Or.inl ⟨2, by omega, by omega, rfl, rfl, rfl⟩) rfl, hX, hY⟩
  rcases hv with ⟨hgk, hfv⟩ | ⟨hgk, n, hn, hgv, hfv⟩
  · rcases hg with ⟨hyk, hxg⟩ | ⟨hyk, n, hn, hyv, hxg⟩
    · subst hxg
      refine ⟨(dl, lr, lc, (nI st), (nI d), (nI cl), (nI sc), 1, xa, xs, (fb d), (if yv ≤ gv h then (0 : Int32) else 1).toInt64, 0, kX, vX, df, pr, sp, pl, th, fc, fs, fb, (upd fd d 2), fv, fe, kp, kv, cc, cs, ss, sv, so), ((nI sc), (nI cl), (nI h), (fb d), (nI st), 0, ya, ys, 0, (if yv ≤ gv h then (0 : Int32) else 1), yc, yt, rk, rv, kY, nY, en, ln, pr, sp, pk, pv, th, ss, po, so, cy, cb, cs, gt, (upd ph h 2), ge, gk, gv, bp, ok, ov, ob), _, ?_, bl_mkG (s := s) C (by omega) hcl hst (by omega) So Co P V (bl_St_cg (Nat.le_refl _) (Nat.le_refl _) d h _ s (fun i hi => by simp only [bl_x, upd, vp_updL, if_neg (show ¬ i = d by omega)]) (fun i hi => by simp only [bl_y, upd, if_neg (show ¬ i = h by omega)]) S) (Or.inl ⟨rfl, rfl⟩) rfl, fun post hp => ?_, fun post hp => ?_⟩
      · omega
      · refine nm_r (nI_pred d) ⟨i3, nm_r (e' := nI (48 * r + t)) (by rw [cd, hfc]) ⟨i3, i3, nm_r (e' := upd fd d 2) (by rw [cd, hfd]; rfl) ⟨i240, nm_r (e' := 11) (by rw [cp, hk]) (br_f (by decide) (br_f (by decide) (br_f (by decide) (br_f (by decide) (br_f (by decide) (br_f (by decide) (br_f (by decide) (br_f (by decide) (br_f (by decide) (br_f (by decide) (br_f (by decide) (br_t rfl (⟨i240, ⟨i3, br_f (by rw [cd, pk_us]; decide) ⟨i3, nm_r (e' := fv d) (by rw [cd]) ?_⟩⟩⟩)))))))))))))⟩⟩⟩
        rw [hfv]
        refine br_t (bl_lt_int _) (br_t rfl (br_t (bl_lt_int _) (br_t rfl (bl_x_cl1 d3 hkp (br_t (by rw [cp, hk]) ?_)))))
        by_cases z : yv ≤ gv h
        · rw [if_pos z] at hp
          exact br_t (Int32.toInt64_le.mpr z) hp
        · rw [if_neg z] at hp
          exact br_f (fun q => z (Int32.toInt64_le.mp q)) hp
      · refine nm_r (nI_pred h) ⟨j3, nm_r (e' := nI (bl_yb r + t)) (by rw [ch, hgt]) ⟨j240, nm_r (e' := 11) (by rw [cq, kq, hk]) ⟨j240, nm_r (e' := vX (48 * r + t)) (by rw [cq, nq]) ⟨j3, nm_r (e' := 1) (by rw [ch, hph]) ⟨j3, j3, nm_r (e' := upd ph h 2) (by rw [ch, hph]; rfl) (br_f (by decide) (br_f (by decide) (br_f (by decide) (br_f (by decide) (br_t rfl (br_t rfl (br_t rfl (br_t rfl (br_t rfl (br_t rfl (br_f (by decide) (nm_r (nI_pred h) (bl_y_gb1 h3 hbp ⟨j3, nm_r (e' := fb d) (by rw [ch, hob]) (br_f (by decide) (br_f (by decide) (br_f (by decide) (br_f (by decide) (⟨j3, nm_r (e' := gv h) (by rw [ch]) ⟨j3, ?_⟩⟩)))))⟩)))))))))))))⟩⟩⟩⟩⟩
        rw [ch]
        refine br_t hgk (br_t hyk (br_f (by decide) (br_t rfl ?_)))
        by_cases z : yv ≤ gv h
        · rw [if_pos z] at hp; exact br_t z hp
        · rw [if_neg z] at hp; exact br_f z hp
    · refine ty (fun post hp => ?_) (fun post hp => ?_)
      · refine nm_r (nI_pred d) ⟨i3, nm_r (e' := nI (48 * r + t)) (by rw [cd, hfc]) ⟨i3, i3, nm_r (e' := upd fd d 2) (by rw [cd, hfd]; rfl) ⟨i240, nm_r (e' := 11) (by rw [cp, hk]) (br_f (by decide) (br_f (by decide) (br_f (by decide) (br_f (by decide) (br_f (by decide) (br_f (by decide) (br_f (by decide) (br_f (by decide) (br_f (by decide) (br_f (by decide) (br_f (by decide) (br_t rfl (⟨i240, ⟨i3, br_f (by rw [cd, pk_us]; decide) ⟨i3, nm_r (e' := fv d) (by rw [cd]) ?_⟩⟩⟩)))))))))))))⟩⟩⟩
        rw [hfv]
        refine br_t (bl_lt_int _) (br_t rfl (br_f ?_ (br_f (by decide) hp)))
        rw [hxg]; exact bl_nlt_cl (by omega)
      · refine nm_r (nI_pred h) ⟨j3, nm_r (e' := nI (bl_yb r + t)) (by rw [ch, hgt]) ⟨j240, nm_r (e' := 11) (by rw [cq, kq, hk]) ⟨j240, nm_r (e' := vX (48 * r + t)) (by rw [cq, nq]) ⟨j3, nm_r (e' := 1) (by rw [ch, hph]) ⟨j3, j3, nm_r (e' := upd ph h 2) (by rw [ch, hph]; rfl) (br_f (by decide) (br_f (by decide) (br_f (by decide) (br_f (by decide) (br_t rfl (br_t rfl (br_t rfl (br_t rfl (br_t rfl (br_t rfl (br_f (by decide) (nm_r (nI_pred h) (bl_y_gb1 h3 hbp ⟨j3, nm_r (e' := fb d) (by rw [ch, hob]) (br_f (by decide) (br_f (by decide) (br_f (by decide) (br_f (by decide) (⟨j3, nm_r (e' := gv h) (by rw [ch]) ⟨j3, ?_⟩⟩)))))⟩)))))))))))))⟩⟩⟩⟩⟩
        rw [ch]
        exact br_t hgk (br_f (by rw [hyk]; decide) hp)
  · refine ty (fun post hp => ?_) (fun post hp => ?_)
    · refine nm_r (nI_pred d) ⟨i3, nm_r (e' := nI (48 * r + t)) (by rw [cd, hfc]) ⟨i3, i3, nm_r (e' := upd fd d 2) (by rw [cd, hfd]; rfl) ⟨i240, nm_r (e' := 11) (by rw [cp, hk]) (br_f (by decide) (br_f (by decide) (br_f (by decide) (br_f (by decide) (br_f (by decide) (br_f (by decide) (br_f (by decide) (br_f (by decide) (br_f (by decide) (br_f (by decide) (br_f (by decide) (br_t rfl (⟨i240, ⟨i3, br_f (by rw [cd, pk_us]; decide) ⟨i3, nm_r (e' := fv d) (by rw [cd]) ?_⟩⟩⟩)))))))))))))⟩⟩⟩
      rw [hfv]
      exact br_f (bl_nlt_cl (by omega)) (br_f (by decide) hp)
    · refine nm_r (nI_pred h) ⟨j3, nm_r (e' := nI (bl_yb r + t)) (by rw [ch, hgt]) ⟨j240, nm_r (e' := 11) (by rw [cq, kq, hk]) ⟨j240, nm_r (e' := vX (48 * r + t)) (by rw [cq, nq]) ⟨j3, nm_r (e' := 1) (by rw [ch, hph]) ⟨j3, j3, nm_r (e' := upd ph h 2) (by rw [ch, hph]; rfl) (br_f (by decide) (br_f (by decide) (br_f (by decide) (br_f (by decide) (br_t rfl (br_t rfl (br_t rfl (br_t rfl (br_t rfl (br_t rfl (br_f (by decide) (nm_r (nI_pred h) (bl_y_gb1 h3 hbp ⟨j3, nm_r (e' := fb d) (by rw [ch, hob]) (br_f (by decide) (br_f (by decide) (br_f (by decide) (br_f (by decide) (⟨j3, nm_r (e' := gv h) (by rw [ch]) ⟨j3, ?_⟩⟩)))))⟩)))))))))))))⟩⟩⟩⟩⟩
      rw [ch]
      exact br_f (by rw [hgk]; decide) hp
end
