/-! turns: a value is given to the frame on top -/
section
variable {dl lc xst xd xcl xsc xm xa xs xb xe yen ycl yw ym ya ys yk yv yc yt rk rv : Int32}
variable {lr xg : Int64}
variable {kX vX df pr sp th fc fs fb fd fe kp cc cs ss so kY nY en ln pk pv po cy cb gt ph ge gk gv bp ok ov ob : Nat → Int32}
variable {pl fv kv sv : Nat → Int64}
variable {L : Nat → Nat} {q d h sc cl st s r t m m2 p j b w e : Nat}
theorem bl_G_close12 (C : bl_Cf L dl kX vX df pr sp kY nY en ln) (hcl : cl ≤ st) (hst : st ≤ 300) (So : bl_So sp ss so po sc) (Co : bl_Co kX vX L cc cs cy cb sc cl) (P : bl_Po cl pl pk pv) (V : bl_Vo cl sc sv pk pv) (hd : d + 1 ≤ st) (hw : 3001 * sc + (3009 + s) ≤ 3010 * st) (S : bl_St kX vX L sc cl (bl_x fc fs fb fd fv fe kp kv) (bl_y gt ph ge gk gv bp ok ov ob) d h (fb d) s) (hg : bl_vg cl xg yk yv) (hr : r < 5) (ht : t < L r) (hfc : fc d = nI (48 * r + t)) (hgt : gt h = nI (bl_yb r + t)) (hge : fs d = ge h) (hfs : bl_sc sc (fs d)) (hob : fb d = ob h) (hk : kX (48 * r + t) = 12) (hfd : fd d = 0) (hph : ph h = 0) (hbd : bl_bd cl (kp d) (kv d) (bp h) (ok h) (ov h)) : ∃ u' v' q, q < 3010 * (300 - st) + (3009 + s) ∧ bl_RR L q u' v' ∧ (∀ post : SX → Prop, post u' → wpX_resumeFrame post (dl, lr, lc, (nI st), (nI (d + 1)), (nI cl), (nI sc), 1, xa, xs, xb, xg, 0, kX, vX, df, pr, sp, pl, th, fc, fs, fb, fd, fv, fe, kp, kv, cc, cs, ss, sv, so)) ∧ (∀ post : SY → Prop, post v' → wpY_give post ((nI sc), (nI cl), (nI (h + 1)), xb, (nI st), 0, ya, ys, yk, yv, yc, yt, rk, rv, kY, nY, en, ln, pr, sp, pk, pv, th, ss, po, so, cy, cb, cs, gt, ph, ge, gk, gv, bp, ok, ov, ob)) := by
  have K := C.1
  have p240 := bl_pX K hr ht
  have q240 := bl_pY K hr ht
  have kq := (bl_kY K hr ht).1
  have nq := (bl_kY K hr ht).2
  have tk := K.2.2 _ p240
  have R := C.2.1 r hr (by omega)
  have l48 := K.1 r hr
  have i240 : vp_in (nI (48 * r + t)) 240 := vp_in_nI p240 (by decide)
  have j240 : vp_in (nI (bl_yb r + t)) 240 := vp_in_nI q240 (by decide)
  have cp : (nI (48 * r + t)).toNatClampNeg = 48 * r + t := nI_clamp (by omega)
  have cq : (nI (bl_yb r + t)).toNatClampNeg = bl_yb r + t := nI_clamp (by omega)
  have hh := bl_St_le _ _ _ _ S
  have d3 : d < 300 := by omega
  have h3 : h < 320 := by omega
  have cd : (nI d).toNatClampNeg = d := nI_clamp (by omega)
  have ch : (nI h).toNatClampNeg = h := nI_clamp (by omega)
  have i3 : vp_in (nI d) 300 := vp_in_nI d3 (by decide)
  have j3 : vp_in (nI h) 320 := vp_in_nI h3 (by decide)
  have cl3 : cl < 1000 := by omega
  obtain ⟨pl', pk', pv', bp', P', V', hbp, hX, hY⟩ := bl_close (dl := dl) (lr := lr) (lc := lc) (xst := nI st) (xcl := nI cl) (xsc := nI sc) (xm := 1) (xa := xa) (xs := xs) (xb := xb) (xg := xg) (xe := 0) (kX := kX) (vX := vX) (df := df) (pr := pr) (sp := sp) (pl := pl) (th := th) (fc := fc) (fs := fs) (fb := fb) (fd := upd fd d 1) (fv := fv) (fe := fe) (kp := kp) (kv := kv) (cc := cc) (cs := cs) (ss := ss) (sv := sv) (so := so) (yen := nI sc) (ycl := nI cl) (yw := nI h) (ym := 0) (ya := ya) (ys := ys) (yk := yk) (yv := yv) (yc := yc) (yt := yt) (rk := rk) (rv := rv) (kY := kY) (nY := nY) (en := en) (ln := ln) (pk := pk) (pv := pv) (po := po) (cy := cy) (cb := cb) (gt := gt) (ph := upd ph h 1) (ge := ge) (gk := gk) (gv := gv) (bp := bp) (ok := ok) (ov := ov) (ob := ob) d3 h3 hbd P V
  refine ⟨(dl, lr, lc, (nI st), (nI d), (nI cl), (nI sc), 1, xa, xs, (fb d), xg, 0, kX, vX, df, pr, sp, pl', th, fc, fs, fb, (upd fd d 1), fv, fe, kp, kv, cc, cs, ss, sv, so), ((nI sc), (nI cl), (nI h), (fb d), (nI st), 0, ya, ys, yk, yv, yc, yt, rk, rv, kY, nY, en, ln, pr, sp, pk', pv', th, ss, po, so, cy, cb, cs, gt, (upd ph h 1), ge, gk, gv, bp', ok, ov, ob), _, ?_, bl_mkG (s := s) C (by omega) hcl hst (by omega) So Co P' V' ?_ hg rfl, fun post hp => ?_, fun post hp => ?_⟩
  · omega
  · exact bl_St_cg (Nat.le_refl _) (Nat.le_refl _) d h _ s (fun i hi => by simp only [bl_x, upd, vp_updL, if_neg (show ¬ i = d by omega)]) (fun i hi => by simp only [bl_y, upd, if_neg (show ¬ i = h by omega), hbp i (by omega)]) S
  · exact nm_r (nI_pred d) ⟨i3, nm_r (e' := nI (48 * r + t)) (by rw [cd, hfc]) ⟨i3, i3, nm_r (e' := upd fd d 1) (by rw [cd, hfd]; rfl) ⟨i240, nm_r (e' := 12) (by rw [cp, hk]) (br_f (by decide) (br_f (by decide) (br_f (by decide) (br_f (by decide) (br_f (by decide) (br_f (by decide) (br_f (by decide) (br_f (by decide) (br_f (by decide) (br_f (by decide) (br_f (by decide) (br_f (by decide) (br_t rfl (hX _ hp))))))))))))))⟩⟩⟩
  · exact nm_r (nI_pred h) ⟨j3, nm_r (e' := nI (bl_yb r + t)) (by rw [ch, hgt]) ⟨j240, nm_r (e' := 12) (by rw [cq, kq, hk]) ⟨j240, nm_r (e' := vX (48 * r + t)) (by rw [cq, nq]) ⟨j3, nm_r (e' := 0) (by rw [ch, hph]) ⟨j3, j3, nm_r (e' := upd ph h 1) (by rw [ch, hph]; rfl) (br_f (by decide) (br_f (by decide) (br_t (by decide) (br_t rfl (br_f (by decide) (br_t rfl (br_f (by decide) (br_f (by decide) (br_f (by decide) (br_f (by decide) (br_f (by decide) (br_f (by decide) (br_f (by decide) (br_f (by decide) (br_f (by decide) (br_f (by decide) (nm_r (nI_pred h) (hY _ ⟨j3, nm_r (e' := fb d) (by rw [ch, hob]) (br_f (by decide) (br_f (by decide) (br_f (by decide) (br_t (by decide) (br_f (by decide) (br_f (by decide) (br_f (by decide) hp)))))))⟩))))))))))))))))))⟩⟩⟩⟩⟩
theorem bl_G_close14 (C : bl_Cf L dl kX vX df pr sp kY nY en ln) (hcl : cl ≤ st) (hst : st ≤ 300) (So : bl_So sp ss so po sc) (Co : bl_Co kX vX L cc cs cy cb sc cl) (P : bl_Po cl pl pk pv) (V : bl_Vo cl sc sv pk pv) (hd : d + 1 ≤ st) (hw : 3001 * sc + (3009 + s) ≤ 3010 * st) (S : bl_St kX vX L sc cl (bl_x fc fs fb fd fv fe kp kv) (bl_y gt ph ge gk gv bp ok ov ob) d h (fb d) s) (hg : bl_vg cl xg yk yv) (hr : r < 5) (ht : t < L r) (hfc : fc d = nI (48 * r + t)) (hgt : gt h = nI (bl_yb r + t)) (hge : fs d = ge h) (hfs : bl_sc sc (fs d)) (hob : fb d = ob h) (hk : kX (48 * r + t) = 14) (hfd : fd d = 0) (hph : ph h = 0) (hbd : bl_bd cl (kp d) (kv d) (bp h) (ok h) (ov h)) : ∃ u' v' q, q < 3010 * (300 - st) + (3009 + s) ∧ bl_RR L q u' v' ∧ (∀ post : SX → Prop, post u' → wpX_resumeFrame post (dl, lr, lc, (nI st), (nI (d + 1)), (nI cl), (nI sc), 1, xa, xs, xb, xg, 0, kX, vX, df, pr, sp, pl, th, fc, fs, fb, fd, fv, fe, kp, kv, cc, cs, ss, sv, so)) ∧ (∀ post : SY → Prop, post v' → wpY_give post ((nI sc), (nI cl), (nI (h + 1)), xb, (nI st), 0, ya, ys, yk, yv, yc, yt, rk, rv, kY, nY, en, ln, pr, sp, pk, pv, th, ss, po, so, cy, cb, cs, gt, ph, ge, gk, gv, bp, ok, ov, ob)) := by
  have K := C.1
  have p240 := bl_pX K hr ht
  have q240 := bl_pY K hr ht
  have kq := (bl_kY K hr ht).1
  have nq := (bl_kY K hr ht).2
  have tk := K.2.2 _ p240
  have R := C.2.1 r hr (by omega)
  have l48 := K.1 r hr
  have i240 : vp_in (nI (48 * r + t)) 240 := vp_in_nI p240 (by decide)
  have j240 : vp_in (nI (bl_yb r + t)) 240 := vp_in_nI q240 (by decide)
  have cp : (nI (48 * r + t)).toNatClampNeg = 48 * r + t := nI_clamp (by omega)
  have cq : (nI (bl_yb r + t)).toNatClampNeg = bl_yb r + t := nI_clamp (by omega)
  have hh := bl_St_le _ _ _ _ S
  have d3 : d < 300 := by omega
  have h3 : h < 320 := by omega
  have cd : (nI d).toNatClampNeg = d := nI_clamp (by omega)
  have ch : (nI h).toNatClampNeg = h := nI_clamp (by omega)
  have i3 : vp_in (nI d) 300 := vp_in_nI d3 (by decide)
  have j3 : vp_in (nI h) 320 := vp_in_nI h3 (by decide)
  have cl3 : cl < 1000 := by omega
  obtain ⟨pl', pk', pv', bp', P', V', hbp, hX, hY⟩ := bl_close (dl := dl) (lr := lr) (lc := lc) (xst := nI st) (xcl := nI cl) (xsc := nI sc) (xm := 1) (xa := xa) (xs := xs) (xb := xb) (xg := xg) (xe := 0) (kX := kX) (vX := vX) (df := df) (pr := pr) (sp := sp) (pl := pl) (th := th) (fc := fc) (fs := fs) (fb := fb) (fd := upd fd d 1) (fv := fv) (fe := fe) (kp := kp) (kv := kv) (cc := cc) (cs := cs) (ss := ss) (sv := sv) (so := so) (yen := nI sc) (ycl := nI cl) (yw := nI h) (ym := 0) (ya := ya) (ys := ys) (yk := yk) (yv := yv) (yc := yc) (yt := yt) (rk := rk) (rv := rv) (kY := kY) (nY := nY) (en := en) (ln := ln) (pk := pk) (pv := pv) (po := po) (cy := cy) (cb := cb) (gt := gt) (ph := upd ph h 1) (ge := ge) (gk := gk) (gv := gv) (bp := bp) (ok := ok) (ov := ov) (ob := ob) d3 h3 hbd P V
  refine ⟨(dl, lr, lc, (nI st), (nI d), (nI cl), (nI sc), 1, xa, xs, (fb d), xg, 0, kX, vX, df, pr, sp, pl', th, fc, fs, fb, (upd fd d 1), fv, fe, kp, kv, cc, cs, ss, sv, so), ((nI sc), (nI cl), (nI h), (fb d), (nI st), 0, ya, ys, yk, yv, yc, yt, rk, rv, kY, nY, en, ln, pr, sp, pk', pv', th, ss, po, so, cy, cb, cs, gt, (upd ph h 1), ge, gk, gv, bp', ok, ov, ob), _, ?_, bl_mkG (s := s) C (by omega) hcl hst (by omega) So Co P' V' ?_ hg rfl, fun post hp => ?_, fun post hp => ?_⟩
  · omega
  · exact bl_St_cg (Nat.le_refl _) (Nat.le_refl _) d h _ s (fun i hi => by simp only [bl_x, upd, vp_updL, if_neg (show ¬ i = d by omega)]) (fun i hi => by simp only [bl_y, upd, if_neg (show ¬ i = h by omega), hbp i (by omega)]) S
  · exact nm_r (nI_pred d) ⟨i3, nm_r (e' := nI (48 * r + t)) (by rw [cd, hfc]) ⟨i3, i3, nm_r (e' := upd fd d 1) (by rw [cd, hfd]; rfl) ⟨i240, nm_r (e' := 14) (by rw [cp, hk]) (br_f (by decide) (br_f (by decide) (br_f (by decide) (br_f (by decide) (br_f (by decide) (br_f (by decide) (br_f (by decide) (br_f (by decide) (br_f (by decide) (br_f (by decide) (br_f (by decide) (br_f (by decide) (br_f (by decide) (br_f (by decide) (br_t rfl (hX _ hp))))))))))))))))⟩⟩⟩
  · exact nm_r (nI_pred h) ⟨j3, nm_r (e' := nI (bl_yb r + t)) (by rw [ch, hgt]) ⟨j240, nm_r (e' := 14) (by rw [cq, kq, hk]) ⟨j240, nm_r (e' := vX (48 * r + t)) (by rw [cq, nq]) ⟨j3, nm_r (e' := 0) (by rw [ch, hph]) ⟨j3, j3, nm_r (e' := upd ph h 1) (by rw [ch, hph]; rfl) (br_f (by decide) (br_f (by decide) (br_t (by decide) (br_t rfl (br_f (by decide) (br_t rfl (br_f (by decide) (br_f (by decide) (br_f (by decide) (br_f (by decide) (br_f (by decide) (br_f (by decide) (br_f (by decide) (br_f (by decide) (br_f (by decide) (br_f (by decide) (nm_r (nI_pred h) (hY _ ⟨j3, nm_r (e' := fb d) (by rw [ch, hob]) (br_f (by decide) (br_f (by decide) (br_f (by decide) (br_t (by decide) (br_f (by decide) (br_f (by decide) (br_f (by decide) hp)))))))⟩))))))))))))))))))⟩⟩⟩⟩⟩
theorem bl_G_close16 (C : bl_Cf L dl kX vX df pr sp kY nY en ln) (hcl : cl ≤ st) (hst : st ≤ 300) (So : bl_So sp ss so po sc) (Co : bl_Co kX vX L cc cs cy cb sc cl) (P : bl_Po cl pl pk pv) (V : bl_Vo cl sc sv pk pv) (hd : d + 1 ≤ st) (hw : 3001 * sc + (3009 + s) ≤ 3010 * st) (S : bl_St kX vX L sc cl (bl_x fc fs fb fd fv fe kp kv) (bl_y gt ph ge gk gv bp ok ov ob) d h (fb d) s) (hg : bl_vg cl xg yk yv) (hr : r < 5) (ht : t < L r) (hfc : fc d = nI (48 * r + t)) (hgt : gt h = nI (bl_yb r + t)) (hge : fs d = ge h) (hfs : bl_sc sc (fs d)) (hob : fb d = ob h) (hk : kX (48 * r + t) = 16) (hfd : fd d = 0) (hph : ph h = 0) (hbd : bl_bd cl (kp d) (kv d) (bp h) (ok h) (ov h)) : ∃ u' v' q, q < 3010 * (300 - st) + (3009 + s) ∧ bl_RR L q u' v' ∧ (∀ post : SX → Prop, post u' → wpX_resumeFrame post (dl, lr, lc, (nI st), (nI (d + 1)), (nI cl), (nI sc), 1, xa, xs, xb, xg, 0, kX, vX, df, pr, sp, pl, th, fc, fs, fb, fd, fv, fe, kp, kv, cc, cs, ss, sv, so)) ∧ (∀ post : SY → Prop, post v' → wpY_give post ((nI sc), (nI cl), (nI (h + 1)), xb, (nI st), 0, ya, ys, yk, yv, yc, yt, rk, rv, kY, nY, en, ln, pr, sp, pk, pv, th, ss, po, so, cy, cb, cs, gt, ph, ge, gk, gv, bp, ok, ov, ob)) := by
  have K := C.1
  have p240 := bl_pX K hr ht
  have q240 := bl_pY K hr ht
  have kq := (bl_kY K hr ht).1
  have nq := (bl_kY K hr ht).2
  have tk := K.2.2 _ p240
  have R := C.2.1 r hr (by omega)
  have l48 := K.1 r hr
  have i240 : vp_in (nI (48 * r + t)) 240 := vp_in_nI p240 (by decide)
  have j240 : vp_in (nI (bl_yb r + t)) 240 := vp_in_nI q240 (by decide)
  have cp : (nI (48 * r + t)).toNatClampNeg = 48 * r + t := nI_clamp (by omega)
  have cq : (nI (bl_yb r + t)).toNatClampNeg = bl_yb r + t := nI_clamp (by omega)
  have hh := bl_St_le _ _ _ _ S
  have d3 : d < 300 := by omega
  have h3 : h < 320 := by omega
  have cd : (nI d).toNatClampNeg = d := nI_clamp (by omega)
  have ch : (nI h).toNatClampNeg = h := nI_clamp (by omega)
  have i3 : vp_in (nI d) 300 := vp_in_nI d3 (by decide)
  have j3 : vp_in (nI h) 320 := vp_in_nI h3 (by decide)
  have cl3 : cl < 1000 := by omega
  obtain ⟨pl', pk', pv', bp', P', V', hbp, hX, hY⟩ := bl_close (dl := dl) (lr := lr) (lc := lc) (xst := nI st) (xcl := nI cl) (xsc := nI sc) (xm := 1) (xa := xa) (xs := xs) (xb := xb) (xg := xg) (xe := 0) (kX := kX) (vX := vX) (df := df) (pr := pr) (sp := sp) (pl := pl) (th := th) (fc := fc) (fs := fs) (fb := fb) (fd := upd fd d 1) (fv := fv) (fe := fe) (kp := kp) (kv := kv) (cc := cc) (cs := cs) (ss := ss) (sv := sv) (so := so) (yen := nI sc) (ycl := nI cl) (yw := nI h) (ym := 0) (ya := ya) (ys := ys) (yk := yk) (yv := yv) (yc := yc) (yt := yt) (rk := rk) (rv := rv) (kY := kY) (nY := nY) (en := en) (ln := ln) (pk := pk) (pv := pv) (po := po) (cy := cy) (cb := cb) (gt := gt) (ph := upd ph h 1) (ge := ge) (gk := gk) (gv := gv) (bp := bp) (ok := ok) (ov := ov) (ob := ob) d3 h3 hbd P V
  refine ⟨(dl, lr, lc, (nI st), (nI d), (nI cl), (nI sc), 1, xa, xs, (fb d), xg, 0, kX, vX, df, pr, sp, pl', th, fc, fs, fb, (upd fd d 1), fv, fe, kp, kv, cc, cs, ss, sv, so), ((nI sc), (nI cl), (nI h), (fb d), (nI st), 0, ya, ys, yk, yv, yc, yt, rk, rv, kY, nY, en, ln, pr, sp, pk', pv', th, ss, po, so, cy, cb, cs, gt, (upd ph h 1), ge, gk, gv, bp', ok, ov, ob), _, ?_, bl_mkG (s := s) C (by omega) hcl hst (by omega) So Co P' V' ?_ hg rfl, fun post hp => ?_, fun post hp => ?_⟩
  · omega
  · exact bl_St_cg (Nat.le_refl _) (Nat.le_refl _) d h _ s (fun i hi => by simp only [bl_x, upd, vp_updL, if_neg (show ¬ i = d by omega)]) (fun i hi => by simp only [bl_y, upd, if_neg (show ¬ i = h by omega), hbp i (by omega)]) S
  · exact nm_r (nI_pred d) ⟨i3, nm_r (e' := nI (48 * r + t)) (by rw [cd, hfc]) ⟨i3, i3, nm_r (e' := upd fd d 1) (by rw [cd, hfd]; rfl) ⟨i240, nm_r (e' := 16) (by rw [cp, hk]) (br_f (by decide) (br_f (by decide) (br_f (by decide) (br_f (by decide) (br_f (by decide) (br_f (by decide) (br_f (by decide) (br_f (by decide) (br_f (by decide) (br_f (by decide) (br_f (by decide) (br_f (by decide) (br_f (by decide) (br_f (by decide) (br_f (by decide) (br_f (by decide) (br_t rfl (hX _ hp))))))))))))))))))⟩⟩⟩
  · exact nm_r (nI_pred h) ⟨j3, nm_r (e' := nI (bl_yb r + t)) (by rw [ch, hgt]) ⟨j240, nm_r (e' := 16) (by rw [cq, kq, hk]) ⟨j240, nm_r (e' := vX (48 * r + t)) (by rw [cq, nq]) ⟨j3, nm_r (e' := 0) (by rw [ch, hph]) ⟨j3, j3, nm_r (e' := upd ph h 1) (by rw [ch, hph]; rfl) (br_f (by decide) (br_f (by decide) (br_t (by decide) (br_t rfl (br_f (by decide) (br_t rfl (br_f (by decide) (br_f (by decide) (br_f (by decide) (br_f (by decide) (br_f (by decide) (br_f (by decide) (br_f (by decide) (br_f (by decide) (br_f (by decide) (br_f (by decide) (nm_r (nI_pred h) (hY _ ⟨j3, nm_r (e' := fb d) (by rw [ch, hob]) (br_f (by decide) (br_f (by decide) (br_f (by decide) (br_t (by decide) (br_f (by decide) (br_f (by decide) (br_f (by decide) hp)))))))⟩))))))))))))))))))⟩⟩⟩⟩⟩
theorem bl_G_close3 (C : bl_Cf L dl kX vX df pr sp kY nY en ln) (hcl : cl ≤ st) (hst : st ≤ 300) (So : bl_So sp ss so po sc) (Co : bl_Co kX vX L cc cs cy cb sc cl) (P : bl_Po cl pl pk pv) (V : bl_Vo cl sc sv pk pv) (hd : d + 1 ≤ st) (hw : 3001 * sc + (6 + s) ≤ 3010 * st) (S : bl_St kX vX L sc cl (bl_x fc fs fb fd fv fe kp kv) (bl_y gt ph ge gk gv bp ok ov ob) d h (fb d) s) (hg : bl_vg cl xg yk yv) (hr : r < 5) (ht : t < L r) (hfc : fc d = nI (48 * r + t)) (hgt : gt h = nI (bl_yb r + t)) (hge : fs d = ge h) (hfs : bl_sc sc (fs d)) (hob : fb d = ob h) (hk : kX (48 * r + t) = 3) (hfd : fd d = 1) (hph : ph h = 1) (hbd : bl_bd cl (kp d) (kv d) (bp h) (ok h) (ov h)) : ∃ u' v' q, q < 3010 * (300 - st) + (6 + s) ∧ bl_RR L q u' v' ∧ (∀ post : SX → Prop, post u' → wpX_resumeFrame post (dl, lr, lc, (nI st), (nI (d + 1)), (nI cl), (nI sc), 1, xa, xs, xb, xg, 0, kX, vX, df, pr, sp, pl, th, fc, fs, fb, fd, fv, fe, kp, kv, cc, cs, ss, sv, so)) ∧ (∀ post : SY → Prop, post v' → wpY_give post ((nI sc), (nI cl), (nI (h + 1)), xb, (nI st), 0, ya, ys, yk, yv, yc, yt, rk, rv, kY, nY, en, ln, pr, sp, pk, pv, th, ss, po, so, cy, cb, cs, gt, ph, ge, gk, gv, bp, ok, ov, ob)) := by
  have K := C.1
  have p240 := bl_pX K hr ht
  have q240 := bl_pY K hr ht
  have kq := (bl_kY K hr ht).1
  have nq := (bl_kY K hr ht).2
  have tk := K.2.2 _ p240
  have R := C.2.1 r hr (by omega)
  have l48 := K.1 r hr
  have i240 : vp_in (nI (48 * r + t)) 240 := vp_in_nI p240 (by decide)
  have j240 : vp_in (nI (bl_yb r + t)) 240 := vp_in_nI q240 (by decide)
  have cp : (nI (48 * r + t)).toNatClampNeg = 48 * r + t := nI_clamp (by omega)
  have cq : (nI (bl_yb r + t)).toNatClampNeg = bl_yb r + t := nI_clamp (by omega)
  have hh := bl_St_le _ _ _ _ S
  have d3 : d < 300 := by omega
  have h3 : h < 320 := by omega
  have cd : (nI d).toNatClampNeg = d := nI_clamp (by omega)
  have ch : (nI h).toNatClampNeg = h := nI_clamp (by omega)
  have i3 : vp_in (nI d) 300 := vp_in_nI d3 (by decide)
  have j3 : vp_in (nI h) 320 := vp_in_nI h3 (by decide)
  have cl3 : cl < 1000 := by omega
  obtain ⟨pl', pk', pv', bp', P', V', hbp, hX, hY⟩ := bl_close (dl := dl) (lr := lr) (lc := lc) (xst := nI st) (xcl := nI cl) (xsc := nI sc) (xm := 1) (xa := xa) (xs := xs) (xb := xb) (xg := xg) (xe := 0) (kX := kX) (vX := vX) (df := df) (pr := pr) (sp := sp) (pl := pl) (th := th) (fc := fc) (fs := fs) (fb := fb) (fd := upd fd d 2) (fv := fv) (fe := fe) (kp := kp) (kv := kv) (cc := cc) (cs := cs) (ss := ss) (sv := sv) (so := so) (yen := nI sc) (ycl := nI cl) (yw := nI h) (ym := 0) (ya := ya) (ys := ys) (yk := yk) (yv := yv) (yc := yc) (yt := yt) (rk := rk) (rv := rv) (kY := kY) (nY := nY) (en := en) (ln := ln) (pk := pk) (pv := pv) (po := po) (cy := cy) (cb := cb) (gt := gt) (ph := upd ph h 2) (ge := ge) (gk := gk) (gv := gv) (bp := bp) (ok := ok) (ov := ov) (ob := ob) d3 h3 hbd P V
  refine ⟨(dl, lr, lc, (nI st), (nI d), (nI cl), (nI sc), 1, xa, xs, (fb d), xg, 0, kX, vX, df, pr, sp, pl', th, fc, fs, fb, (upd fd d 2), fv, fe, kp, kv, cc, cs, ss, sv, so), ((nI sc), (nI cl), (nI h), (fb d), (nI st), 0, ya, ys, yk, yv, yc, yt, rk, rv, kY, nY, en, ln, pr, sp, pk', pv', th, ss, po, so, cy, cb, cs, gt, (upd ph h 2), ge, gk, gv, bp', ok, ov, ob), _, ?_, bl_mkG (s := s) C (by omega) hcl hst (by omega) So Co P' V' ?_ hg rfl, fun post hp => ?_, fun post hp => ?_⟩
  · omega
  · exact bl_St_cg (Nat.le_refl _) (Nat.le_refl _) d h _ s (fun i hi => by simp only [bl_x, upd, vp_updL, if_neg (show ¬ i = d by omega)]) (fun i hi => by simp only [bl_y, upd, if_neg (show ¬ i = h by omega), hbp i (by omega)]) S
  · exact nm_r (nI_pred d) ⟨i3, nm_r (e' := nI (48 * r + t)) (by rw [cd, hfc]) ⟨i3, i3, nm_r (e' := upd fd d 2) (by rw [cd, hfd]; rfl) ⟨i240, nm_r (e' := 3) (by rw [cp, hk]) (br_f (by decide) (br_f (by decide) (br_f (by decide) (br_t rfl (⟨i240, ⟨i3, br_f (by rw [cd, pk_us]; decide) (hX _ hp)⟩⟩)))))⟩⟩⟩
  · exact nm_r (nI_pred h) ⟨j3, nm_r (e' := nI (bl_yb r + t)) (by rw [ch, hgt]) ⟨j240, nm_r (e' := 3) (by rw [cq, kq, hk]) ⟨j240, nm_r (e' := vX (48 * r + t)) (by rw [cq, nq]) ⟨j3, nm_r (e' := 1) (by rw [ch, hph]) ⟨j3, j3, nm_r (e' := upd ph h 2) (by rw [ch, hph]; rfl) (br_f (by decide) (br_t (by decide) (br_f (by decide) (br_t rfl (br_t rfl (br_t rfl (br_t rfl (br_t rfl (br_t rfl (br_f (by decide) (nm_r (nI_pred h) (hY _ ⟨j3, nm_r (e' := fb d) (by rw [ch, hob]) (br_f (by decide) (br_f (by decide) (br_t (by decide) (br_f (by decide) (br_f (by decide) (br_f (by decide) hp))))))⟩))))))))))))⟩⟩⟩⟩⟩
theorem bl_G_close6 (C : bl_Cf L dl kX vX df pr sp kY nY en ln) (hcl : cl ≤ st) (hst : st ≤ 300) (So : bl_So sp ss so po sc) (Co : bl_Co kX vX L cc cs cy cb sc cl) (P : bl_Po cl pl pk pv) (V : bl_Vo cl sc sv pk pv) (hd : d + 1 ≤ st) (hw : 3001 * sc + (6 + s) ≤ 3010 * st) (S : bl_St kX vX L sc cl (bl_x fc fs fb fd fv fe kp kv) (bl_y gt ph ge gk gv bp ok ov ob) d h (fb d) s) (hg : bl_vg cl xg yk yv) (hr : r < 5) (ht : t < L r) (hfc : fc d = nI (48 * r + t)) (hgt : gt h = nI (bl_yb r + t)) (hge : fs d = ge h) (hfs : bl_sc sc (fs d)) (hob : fb d = ob h) (hk : kX (48 * r + t) = 6) (hfd : fd d = 1) (hph : ph h = 1) (hbd : bl_bd cl (kp d) (kv d) (bp h) (ok h) (ov h)) : ∃ u' v' q, q < 3010 * (300 - st) + (6 + s) ∧ bl_RR L q u' v' ∧ (∀ post : SX → Prop, post u' → wpX_resumeFrame post (dl, lr, lc, (nI st), (nI (d + 1)), (nI cl), (nI sc), 1, xa, xs, xb, xg, 0, kX, vX, df, pr, sp, pl, th, fc, fs, fb, fd, fv, fe, kp, kv, cc, cs, ss, sv, so)) ∧ (∀ post : SY → Prop, post v' → wpY_give post ((nI sc), (nI cl), (nI (h + 1)), xb, (nI st), 0, ya, ys, yk, yv, yc, yt, rk, rv, kY, nY, en, ln, pr, sp, pk, pv, th, ss, po, so, cy, cb, cs, gt, ph, ge, gk, gv, bp, ok, ov, ob)) := by
  have K := C.1
  have p240 := bl_pX K hr ht
  have q240 := bl_pY K hr ht
  have kq := (bl_kY K hr ht).1
  have nq := (bl_kY K hr ht).2
  have tk := K.2.2 _ p240
  have R := C.2.1 r hr (by omega)
  have l48 := K.1 r hr
  have i240 : vp_in (nI (48 * r + t)) 240 := vp_in_nI p240 (by decide)
  have j240 : vp_in (nI (bl_yb r + t)) 240 := vp_in_nI q240 (by decide)
  have cp : (nI (48 * r + t)).toNatClampNeg = 48 * r + t := nI_clamp (by omega)
  have cq : (nI (bl_yb r + t)).toNatClampNeg = bl_yb r + t := nI_clamp (by omega)
  have hh := bl_St_le _ _ _ _ S
  have d3 : d < 300 := by omega
  have h3 : h < 320 := by omega
  have cd : (nI d).toNatClampNeg = d := nI_clamp (by omega)
  have ch : (nI h).toNatClampNeg = h := nI_clamp (by omega)
  have i3 : vp_in (nI d) 300 := vp_in_nI d3 (by decide)
  have j3 : vp_in (nI h) 320 := vp_in_nI h3 (by decide)
  have cl3 : cl < 1000 := by omega
  obtain ⟨pl', pk', pv', bp', P', V', hbp, hX, hY⟩ := bl_close (dl := dl) (lr := lr) (lc := lc) (xst := nI st) (xcl := nI cl) (xsc := nI sc) (xm := 1) (xa := xa) (xs := xs) (xb := xb) (xg := xg) (xe := 0) (kX := kX) (vX := vX) (df := df) (pr := pr) (sp := sp) (pl := pl) (th := th) (fc := fc) (fs := fs) (fb := fb) (fd := upd fd d 2) (fv := fv) (fe := fe) (kp := kp) (kv := kv) (cc := cc) (cs := cs) (ss := ss) (sv := sv) (so := so) (yen := nI sc) (ycl := nI cl) (yw := nI h) (ym := 0) (ya := ya) (ys := ys) (yk := yk) (yv := yv) (yc := yc) (yt := yt) (rk := rk) (rv := rv) (kY := kY) (nY := nY) (en := en) (ln := ln) (pk := pk) (pv := pv) (po := po) (cy := cy) (cb := cb) (gt := gt) (ph := upd ph h 2) (ge := ge) (gk := gk) (gv := gv) (bp := bp) (ok := ok) (ov := ov) (ob := ob) d3 h3 hbd P V
  refine ⟨(dl, lr, lc, (nI st), (nI d), (nI cl), (nI sc), 1, xa, xs, (fb d), xg, 0, kX, vX, df, pr, sp, pl', th, fc, fs, fb, (upd fd d 2), fv, fe, kp, kv, cc, cs, ss, sv, so), ((nI sc), (nI cl), (nI h), (fb d), (nI st), 0, ya, ys, yk, yv, yc, yt, rk, rv, kY, nY, en, ln, pr, sp, pk', pv', th, ss, po, so, cy, cb, cs, gt, (upd ph h 2), ge, gk, gv, bp', ok, ov, ob), _, ?_, bl_mkG (s := s) C (by omega) hcl hst (by omega) So Co P' V' ?_ hg rfl, fun post hp => ?_, fun post hp => ?_⟩
  · omega
  · exact bl_St_cg (Nat.le_refl _) (Nat.le_refl _) d h _ s (fun i hi => by simp only [bl_x, upd, vp_updL, if_neg (show ¬ i = d by omega)]) (fun i hi => by simp only [bl_y, upd, if_neg (show ¬ i = h by omega), hbp i (by omega)]) S
  · exact nm_r (nI_pred d) ⟨i3, nm_r (e' := nI (48 * r + t)) (by rw [cd, hfc]) ⟨i3, i3, nm_r (e' := upd fd d 2) (by rw [cd, hfd]; rfl) ⟨i240, nm_r (e' := 6) (by rw [cp, hk]) (br_f (by decide) (br_f (by decide) (br_f (by decide) (br_f (by decide) (br_f (by decide) (br_f (by decide) (br_t rfl (⟨i240, ⟨i3, br_t (by rw [cd, pk_us]) (hX _ hp)⟩⟩))))))))⟩⟩⟩
  · exact nm_r (nI_pred h) ⟨j3, nm_r (e' := nI (bl_yb r + t)) (by rw [ch, hgt]) ⟨j240, nm_r (e' := 6) (by rw [cq, kq, hk]) ⟨j240, nm_r (e' := vX (48 * r + t)) (by rw [cq, nq]) ⟨j3, nm_r (e' := 1) (by rw [ch, hph]) ⟨j3, j3, nm_r (e' := upd ph h 2) (by rw [ch, hph]; rfl) (br_f (by decide) (br_t (by decide) (br_f (by decide) (br_t rfl (br_t rfl (br_t rfl (br_t rfl (br_t rfl (br_t rfl (br_f (by decide) (nm_r (nI_pred h) (hY _ ⟨j3, nm_r (e' := fb d) (by rw [ch, hob]) (br_f (by decide) (br_f (by decide) (br_t (by decide) (br_f (by decide) (br_f (by decide) (br_f (by decide) hp))))))⟩))))))))))))⟩⟩⟩⟩⟩
theorem bl_G_close5 (C : bl_Cf L dl kX vX df pr sp kY nY en ln) (hcl : cl ≤ st) (hst : st ≤ 300) (So : bl_So sp ss so po sc) (Co : bl_Co kX vX L cc cs cy cb sc cl) (P : bl_Po cl pl pk pv) (V : bl_Vo cl sc sv pk pv) (hd : d + 1 ≤ st) (hw : 3001 * sc + (4 + s) ≤ 3010 * st) (S : bl_St kX vX L sc cl (bl_x fc fs fb fd fv fe kp kv) (bl_y gt ph ge gk gv bp ok ov ob) d h (fb d) s) (hg : bl_vg cl xg yk yv) (hr : r < 5) (ht : t < L r) (hfc : fc d = nI (48 * r + t)) (hgt : gt h = nI (bl_yb r + t)) (hge : fs d = ge h) (hfs : bl_sc sc (fs d)) (hob : fb d = ob h) (hk : kX (48 * r + t) = 5) (hfd : fd d = 2) (hph : ph h = 2) (hbd : bl_bd cl (kp d) (kv d) (bp h) (ok h) (ov h)) : ∃ u' v' q, q < 3010 * (300 - st) + (4 + s) ∧ bl_RR L q u' v' ∧ (∀ post : SX → Prop, post u' → wpX_resumeFrame post (dl, lr, lc, (nI st), (nI (d + 1)), (nI cl), (nI sc), 1, xa, xs, xb, xg, 0, kX, vX, df, pr, sp, pl, th, fc, fs, fb, fd, fv, fe, kp, kv, cc, cs, ss, sv, so)) ∧ (∀ post : SY → Prop, post v' → wpY_give post ((nI sc), (nI cl), (nI (h + 1)), xb, (nI st), 0, ya, ys, yk, yv, yc, yt, rk, rv, kY, nY, en, ln, pr, sp, pk, pv, th, ss, po, so, cy, cb, cs, gt, ph, ge, gk, gv, bp, ok, ov, ob)) := by
  have K := C.1
  have p240 := bl_pX K hr ht
  have q240 := bl_pY K hr ht
  have kq := (bl_kY K hr ht).1
  have nq := (bl_kY K hr ht).2
  have tk := K.2.2 _ p240
  have R := C.2.1 r hr (by omega)
  have l48 := K.1 r hr
  have i240 : vp_in (nI (48 * r + t)) 240 := vp_in_nI p240 (by decide)
  have j240 : vp_in (nI (bl_yb r + t)) 240 := vp_in_nI q240 (by decide)
  have cp : (nI (48 * r + t)).toNatClampNeg = 48 * r + t := nI_clamp (by omega)
  have cq : (nI (bl_yb r + t)).toNatClampNeg = bl_yb r + t := nI_clamp (by omega)
  have hh := bl_St_le _ _ _ _ S
  have d3 : d < 300 := by omega
  have h3 : h < 320 := by omega
  have cd : (nI d).toNatClampNeg = d := nI_clamp (by omega)
  have ch : (nI h).toNatClampNeg = h := nI_clamp (by omega)
  have i3 : vp_in (nI d) 300 := vp_in_nI d3 (by decide)
  have j3 : vp_in (nI h) 320 := vp_in_nI h3 (by decide)
  have cl3 : cl < 1000 := by omega
  obtain ⟨pl', pk', pv', bp', P', V', hbp, hX, hY⟩ := bl_close (dl := dl) (lr := lr) (lc := lc) (xst := nI st) (xcl := nI cl) (xsc := nI sc) (xm := 1) (xa := xa) (xs := xs) (xb := xb) (xg := xg) (xe := 0) (kX := kX) (vX := vX) (df := df) (pr := pr) (sp := sp) (pl := pl) (th := th) (fc := fc) (fs := fs) (fb := fb) (fd := upd fd d 3) (fv := fv) (fe := fe) (kp := kp) (kv := kv) (cc := cc) (cs := cs) (ss := ss) (sv := sv) (so := so) (yen := nI sc) (ycl := nI cl) (yw := nI h) (ym := 0) (ya := ya) (ys := ys) (yk := yk) (yv := yv) (yc := yc) (yt := yt) (rk := rk) (rv := rv) (kY := kY) (nY := nY) (en := en) (ln := ln) (pk := pk) (pv := pv) (po := po) (cy := cy) (cb := cb) (gt := gt) (ph := upd ph h 3) (ge := ge) (gk := gk) (gv := gv) (bp := bp) (ok := ok) (ov := ov) (ob := ob) d3 h3 hbd P V
  refine ⟨(dl, lr, lc, (nI st), (nI d), (nI cl), (nI sc), 1, xa, xs, (fb d), xg, 0, kX, vX, df, pr, sp, pl', th, fc, fs, fb, (upd fd d 3), fv, fe, kp, kv, cc, cs, ss, sv, so), ((nI sc), (nI cl), (nI h), (fb d), (nI st), 0, ya, ys, yk, yv, yc, yt, rk, rv, kY, nY, en, ln, pr, sp, pk', pv', th, ss, po, so, cy, cb, cs, gt, (upd ph h 3), ge, gk, gv, bp', ok, ov, ob), _, ?_, bl_mkG (s := s) C (by omega) hcl hst (by omega) So Co P' V' ?_ hg rfl, fun post hp => ?_, fun post hp => ?_⟩
  · omega
  · exact bl_St_cg (Nat.le_refl _) (Nat.le_refl _) d h _ s (fun i hi => by simp only [bl_x, upd, vp_updL, if_neg (show ¬ i = d by omega)]) (fun i hi => by simp only [bl_y, upd, if_neg (show ¬ i = h by omega), hbp i (by omega)]) S
  · exact nm_r (nI_pred d) ⟨i3, nm_r (e' := nI (48 * r + t)) (by rw [cd, hfc]) ⟨i3, i3, nm_r (e' := upd fd d 3) (by rw [cd, hfd]; rfl) ⟨i240, nm_r (e' := 5) (by rw [cp, hk]) (br_f (by decide) (br_f (by decide) (br_f (by decide) (br_f (by decide) (br_f (by decide) (br_t rfl (⟨i3, br_f (by rw [cd, pk_us]; decide) ⟨i3, br_t (by rw [cd, pk_us]) (hX _ hp)⟩⟩)))))))⟩⟩⟩
  · exact nm_r (nI_pred h) ⟨j3, nm_r (e' := nI (bl_yb r + t)) (by rw [ch, hgt]) ⟨j240, nm_r (e' := 5) (by rw [cq, kq, hk]) ⟨j240, nm_r (e' := vX (48 * r + t)) (by rw [cq, nq]) ⟨j3, nm_r (e' := 2) (by rw [ch, hph]) ⟨j3, j3, nm_r (e' := upd ph h 3) (by rw [ch, hph]; rfl) (br_t rfl (br_f (by decide) (br_t rfl (br_t rfl (br_t rfl (br_t rfl (br_t rfl (br_f (by decide) (nm_r (nI_pred h) (hY _ ⟨j3, nm_r (e' := fb d) (by rw [ch, hob]) (br_f (by decide) (br_f (by decide) (br_t (by decide) (br_f (by decide) (br_f (by decide) (br_f (by decide) hp))))))⟩))))))))))⟩⟩⟩⟩⟩
end
