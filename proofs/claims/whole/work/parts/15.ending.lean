/-! turns: an ending meets the frame on top -/
section
variable {dl lc xst xd xcl xsc xm xa xs xb xe yen ycl yw ym ya ys yk yv yc yt rk rv : Int32}
variable {lr xg : Int64}
variable {kX vX df pr sp th fc fs fb fd fe kp cc cs ss so kY nY en ln pk pv po cy cb gt ph ge gk gv bp ok ov ob : Nat → Int32}
variable {pl fv kv sv : Nat → Int64}
variable {L : Nat → Nat} {q d h sc cl st s r t m m2 p j b w e : Nat}
theorem bl_x_uc {pl' : Nat → Int64} (d3 : d < 300) (p240 : p < 240) (hfc : fc d = nI p) (h12 : kX p = 12 → ¬ xe = 16 + vX p) (h14 : kX p = 14 → fd d = 0 → 16 ≤ xe) (h15 : kX p = 15 → ¬ fd d = 0) (hc : ∀ post : SX → Prop, post (dl, lr, lc, xst, (nI d), xcl, xsc, xm, xa, xs, (fb d), xg, xe, kX, vX, df, pr, sp, pl', th, fc, fs, fb, fd, fv, fe, kp, kv, cc, cs, ss, sv, so) → wpX_closeFrame post (dl, lr, lc, xst, (nI (d + 1)), xcl, xsc, xm, xa, xs, xb, xg, xe, kX, vX, df, pr, sp, pl, th, fc, fs, fb, fd, fv, fe, kp, kv, cc, cs, ss, sv, so)) {post : SX → Prop} (hp : post (dl, lr, lc, xst, (nI d), xcl, xsc, xm, xa, xs, (fb d), xg, xe, kX, vX, df, pr, sp, pl', th, fc, fs, fb, fd, fv, fe, kp, kv, cc, cs, ss, sv, so)) : wpX_unwindFrame post (dl, lr, lc, xst, (nI (d + 1)), xcl, xsc, xm, xa, xs, xb, xg, xe, kX, vX, df, pr, sp, pl, th, fc, fs, fb, fd, fv, fe, kp, kv, cc, cs, ss, sv, so) := by
  have cd : (nI d).toNatClampNeg = d := nI_clamp (by omega)
  have cp : (nI p).toNatClampNeg = p := nI_clamp (by omega)
  have i3 : vp_in (nI d) 300 := vp_in_nI d3 (by decide)
  have i240 : vp_in (nI p) 240 := vp_in_nI p240 (by decide)
  refine nm_r (nI_pred d) ⟨i3, nm_r (e' := nI p) (by rw [cd, hfc]) ⟨i240, nm_r (e' := kX p) (by rw [cp]) ⟨i3, ?_⟩⟩⟩
  rw [cd]
  have c143 : wX_unwindFrame_143 post dl lr lc xst (nI (d + 1)) xcl xsc xm xa xs xb xg xe kX vX df pr sp pl th fc fs fb fd fv fe kp kv cc cs ss sv so := hc _ hp
  by_cases z : fd d = 0
  · have u124 : wX_unwindFrame_124 post (nI d) (kX p) 1 dl lr lc xst (nI (d + 1)) xcl xsc xm xa xs xb xg xe kX vX df pr sp pl th fc fs fb fd fv fe kp kv cc cs ss sv so := br_c (fun k => absurd z (h15 k)) (fun _ => c143)
    have u89 : wX_unwindFrame_89 post (nI d) (kX p) 1 dl lr lc xst (nI (d + 1)) xcl xsc xm xa xs xb xg xe kX vX df pr sp pl th fc fs fb fd fv fe kp kv cc cs ss sv so := br_c (fun k => br_f (by decide) (br_t (h14 k z) u124)) (fun _ => u124)
    refine br_t z (br_c (fun _ => hc _ hp) (fun _ => br_c (fun k => ⟨i240, ?_⟩) (fun _ => u89)))
    rw [cp]
    exact br_f (h12 k) u89
  · have u124 : wX_unwindFrame_124 post (nI d) (kX p) 0 dl lr lc xst (nI (d + 1)) xcl xsc xm xa xs xb xg xe kX vX df pr sp pl th fc fs fb fd fv fe kp kv cc cs ss sv so := br_c (fun k => br_t rfl c143) (fun _ => c143)
    have u89 : wX_unwindFrame_89 post (nI d) (kX p) 0 dl lr lc xst (nI (d + 1)) xcl xsc xm xa xs xb xg xe kX vX df pr sp pl th fc fs fb fd fv fe kp kv cc cs ss sv so := br_c (fun k => br_t rfl u124) (fun _ => u124)
    refine br_f z (br_c (fun _ => hc _ hp) (fun _ => br_c (fun k => ⟨i240, ?_⟩) (fun _ => u89)))
    rw [cp]
    exact br_f (h12 k) u89
theorem bl_y_ec {pk' pv' bp' : Nat → Int32} (h3 : h < 320) (q240 : p < 240) (hgt : gt h = nI p) (h12 : kY p = 12 → ¬ yt = nY p) (h14 : kY p = 14 → ph h = 0 → 0 ≤ yt) (h15 : kY p = 15 → ¬ ph h = 0) (hc : ∀ post : SY → Prop, post (yen, ycl, (nI (h + 1)), xb, xst, ym, ya, ys, yk, yv, yc, yt, rk, rv, kY, nY, en, ln, pr, sp, pk', pv', th, ss, po, so, cy, cb, cs, gt, ph, ge, gk, gv, bp', ok, ov, ob) → wpY_giveBack post (yen, ycl, (nI (h + 1)), xb, xst, ym, ya, ys, yk, yv, yc, yt, rk, rv, kY, nY, en, ln, pr, sp, pk, pv, th, ss, po, so, cy, cb, cs, gt, ph, ge, gk, gv, bp, ok, ov, ob) (nI h)) {post : SY → Prop} (hp : post (yen, ycl, (nI h), (ob h), xst, ym, ya, ys, yk, yv, yc, yt, rk, rv, kY, nY, en, ln, pr, sp, pk', pv', th, ss, po, so, cy, cb, cs, gt, ph, ge, gk, gv, bp', ok, ov, ob)) : wpY_end post (yen, ycl, (nI (h + 1)), xb, xst, ym, ya, ys, yk, yv, yc, yt, rk, rv, kY, nY, en, ln, pr, sp, pk, pv, th, ss, po, so, cy, cb, cs, gt, ph, ge, gk, gv, bp, ok, ov, ob) := by
  have ch : (nI h).toNatClampNeg = h := nI_clamp (by omega)
  have cq : (nI p).toNatClampNeg = p := nI_clamp (by omega)
  have j3 : vp_in (nI h) 320 := vp_in_nI h3 (by decide)
  have j240 : vp_in (nI p) 240 := vp_in_nI q240 (by decide)
  refine nm_r (nI_pred h) ⟨j3, nm_r (e' := nI p) (by rw [ch, hgt]) ⟨j240, nm_r (e' := kY p) (by rw [cq]) ⟨j3, ?_⟩⟩⟩
  rw [ch]
  by_cases z : ph h = 0
  · have u171 : wY_end_171 post (nI h) (nI p) (kY p) 1 yen ycl (nI h) (ob h) xst ym ya ys yk yv yc yt rk rv kY nY en ln pr sp pk' pv' th ss po so cy cb cs gt ph ge gk gv bp' ok ov ob := br_f (by decide) (br_c (fun k => br_t (h14 k z) hp) (fun _ => hp))
    have u127 : wY_end_127 post (nI h) (nI p) (kY p) 1 yen ycl (nI (h + 1)) (ob h) xst ym ya ys yk yv yc yt rk rv kY nY en ln pr sp pk' pv' th ss po so cy cb cs gt ph ge gk gv bp' ok ov ob := by
      refine nm_r (nI_pred h) (br_c (fun k => ⟨j240, ?_⟩) (fun _ => u171))
      rw [cq]
      exact br_f (h12 k) u171
    exact br_t z (hc _ ⟨j3, nm_r (e' := ob h) (by rw [ch]) (br_f (by decide) (br_c (fun k => absurd z (h15 k)) (fun _ => u127)))⟩)
  · have u171 : wY_end_171 post (nI h) (nI p) (kY p) 0 yen ycl (nI h) (ob h) xst ym ya ys yk yv yc yt rk rv kY nY en ln pr sp pk' pv' th ss po so cy cb cs gt ph ge gk gv bp' ok ov ob := br_t rfl hp
    have u127 : wY_end_127 post (nI h) (nI p) (kY p) 0 yen ycl (nI (h + 1)) (ob h) xst ym ya ys yk yv yc yt rk rv kY nY en ln pr sp pk' pv' th ss po so cy cb cs gt ph ge gk gv bp' ok ov ob := by
      refine nm_r (nI_pred h) (br_c (fun k => ⟨j240, ?_⟩) (fun _ => u171))
      rw [cq]
      exact br_f (h12 k) u171
    exact br_f z (hc _ ⟨j3, nm_r (e' := ob h) (by rw [ch]) (br_t rfl u127)⟩)
theorem bl_er_12 {P : Nat → Prop} (he : bl_er cl P xe xg yt yc yk yv) (hj : j < 4) : xe = 16 + nI j ↔ yt = nI j := by
  rw [show (16 : Int32) + nI j = nI (16 + j) from nI_add 16 j]
  rcases he with ⟨c, c1, c2, c3, c4, _⟩ | ⟨t, c1, c2, c3, _⟩
  · rw [c3, c4, nI_eq (by omega) (by omega)]
    exact ⟨fun z => by omega, fun z => absurd z.symm (bl_neg1 (by omega))⟩
  · rw [c2, c3, nI_eq (by omega) (by omega), nI_eq (by omega) (by omega)]
    omega
theorem bl_er_16 {P : Nat → Prop} (he : bl_er cl P xe xg yt yc yk yv) : 16 ≤ xe ↔ 0 ≤ yt := by
  rcases he with ⟨c, c1, c2, c3, c4, _⟩ | ⟨t, c1, c2, c3, _⟩
  · rw [c3, c4]
    exact ⟨fun z => absurd z (nI_ge (b := 16) (by omega) (by decide)), fun z => absurd z (by decide)⟩
  · rw [c2, c3]
    exact ⟨fun _ => nI_pos' (by omega), fun _ => nI_le (a := 16) (by omega) (by omega)⟩
theorem bl_er_v {P : Nat → Prop} (he : bl_er cl P xe xg yt yc yk yv) (h : 16 ≤ xe) : bl_vg cl xg yk yv := by
  rcases he with ⟨c, c1, c2, c3, c4, _⟩ | ⟨t, c1, c2, c3, c4, c5, c6⟩
  · rw [c3] at h
    exact absurd h (nI_ge (b := 16) (by omega) (by decide))
  · exact c6
theorem bl_er_5 {P : Nat → Prop} (he : bl_er cl P xe xg yt yc yk yv) : ¬ xe = 5 := by
  rcases he with ⟨c, c1, c2, c3, c4, _⟩ | ⟨t, c1, c2, c3, c4, c5, c6⟩
  · rw [c3]
    intro z
    have := (nI_eq (a := c) (b := 5) (by omega) (by decide)).mp z
    omega
  · rw [c2]
    intro z
    have := (nI_eq (a := 16 + t) (b := 5) (by omega) (by decide)).mp z
    omega
theorem bl_N_close (C : bl_Cf L dl kX vX df pr sp kY nY en ln) (hcl : cl ≤ st) (hst : st ≤ 300) (So : bl_So sp ss so po sc) (Co : bl_Co kX vX L cc cs cy cb sc cl) (P : bl_Po cl pl pk pv) (V : bl_Vo cl sc sv pk pv) (hd : d + 1 ≤ st) (hw : 3001 * sc + (w + s) ≤ 3010 * st) (S : bl_St kX vX L sc cl (bl_x fc fs fb fd fv fe kp kv) (bl_y gt ph ge gk gv bp ok ov ob) d h (fb d) s) (hen : bl_er cl (bl_hc kX vX (bl_x fc fs fb fd fv fe kp kv) (d + 1)) xe xg yt yc yk yv) (hr : r < 5) (ht : t < L r) (hfc : fc d = nI (48 * r + t)) (hgt : gt h = nI (bl_yb r + t)) (hge : fs d = ge h) (hfs : bl_sc sc (fs d)) (hob : fb d = ob h) (hw0 : 1 ≤ w) (hbd : bl_bd cl (kp d) (kv d) (bp h) (ok h) (ov h)) (hz : fd d = 0 ↔ ph h = 0) (n12 : kX (48 * r + t) = 12 → ¬ xe = 16 + vX (48 * r + t)) (n14 : kX (48 * r + t) = 14 → fd d = 0 → 16 ≤ xe) (n15 : kX (48 * r + t) = 15 → ¬ fd d = 0) : ∃ u' v' q, q < 3010 * (300 - st) + (w + s) ∧ bl_RR L q u' v' ∧ (∀ post : SX → Prop, post u' → wpX_unwindFrame post (dl, lr, lc, (nI st), (nI (d + 1)), (nI cl), (nI sc), 2, xa, xs, xb, xg, xe, kX, vX, df, pr, sp, pl, th, fc, fs, fb, fd, fv, fe, kp, kv, cc, cs, ss, sv, so)) ∧ (∀ post : SY → Prop, post v' → wpY_end post ((nI sc), (nI cl), (nI (h + 1)), xb, (nI st), 2, ya, ys, yk, yv, yc, yt, rk, rv, kY, nY, en, ln, pr, sp, pk, pv, th, ss, po, so, cy, cb, cs, gt, ph, ge, gk, gv, bp, ok, ov, ob)) := by
  have K := C.1
  have p240 := bl_pX K hr ht
  have q240 := bl_pY K hr ht
  have kq := (bl_kY K hr ht).1
  have nq := (bl_kY K hr ht).2
  have tk := K.2.2 _ p240
  have R := C.2.1 r hr (by omega)
  have l48 := K.1 r hr
  have i240 : vp_in (nI (48 * r + t)) 240 := vp_in_nI p240 (by decide)
  have j240 : vp_in (nI (bl_yb r + t)) 240 := vp_in_nI q240 (by decide)
  have cp : (nI (48 * r + t)).toNatClampNeg = 48 * r + t := nI_clamp (by omega)
  have cq : (nI (bl_yb r + t)).toNatClampNeg = bl_yb r + t := nI_clamp (by omega)
  have hh := bl_St_le _ _ _ _ S
  have d3 : d < 300 := by omega
  have h3 : h < 320 := by omega
  have cd : (nI d).toNatClampNeg = d := nI_clamp (by omega)
  have ch : (nI h).toNatClampNeg = h := nI_clamp (by omega)
  have i3 : vp_in (nI d) 300 := vp_in_nI d3 (by decide)
  have j3 : vp_in (nI h) 320 := vp_in_nI h3 (by decide)
  have cl3 : cl < 1000 := by omega
  have uq : ∀ p', p' < 240 → fc d = nI p' → p' = 48 * r + t := by
    intro p' l' e
    rw [hfc] at e
    exact ((nI_eq (by omega) (by omega)).mp e).symm
  obtain ⟨pl', pk', pv', bp', P', V', hbp, hX, hY⟩ := bl_close (dl := dl) (lr := lr) (lc := lc) (xst := nI st) (xcl := nI cl) (xsc := nI sc) (xm := 2) (xa := xa) (xs := xs) (xb := xb) (xg := xg) (xe := xe) (kX := kX) (vX := vX) (df := df) (pr := pr) (sp := sp) (pl := pl) (th := th) (fc := fc) (fs := fs) (fb := fb) (fd := fd) (fv := fv) (fe := fe) (kp := kp) (kv := kv) (cc := cc) (cs := cs) (ss := ss) (sv := sv) (so := so) (yen := nI sc) (ycl := nI cl) (yw := nI (h + 1)) (ym := 2) (ya := ya) (ys := ys) (yk := yk) (yv := yv) (yc := yc) (yt := yt) (rk := rk) (rv := rv) (kY := kY) (nY := nY) (en := en) (ln := ln) (pk := pk) (pv := pv) (po := po) (cy := cy) (cb := cb) (gt := gt) (ph := ph) (ge := ge) (gk := gk) (gv := gv) (bp := bp) (ok := ok) (ov := ov) (ob := ob) d3 h3 hbd P V
  refine ⟨(dl, lr, lc, (nI st), (nI d), (nI cl), (nI sc), 2, xa, xs, (fb d), xg, xe, kX, vX, df, pr, sp, pl', th, fc, fs, fb, fd, fv, fe, kp, kv, cc, cs, ss, sv, so), ((nI sc), (nI cl), (nI h), (fb d), (nI st), 2, ya, ys, yk, yv, yc, yt, rk, rv, kY, nY, en, ln, pr, sp, pk', pv', th, ss, po, so, cy, cb, cs, gt, ph, ge, gk, gv, bp', ok, ov, ob), _, ?_, bl_mkN (s := s) C (by omega) hcl hst (by omega) So Co P' V' (Or.inl ?_) (bl_er_dn hen ?_) rfl, fun post hp => bl_x_uc d3 p240 hfc n12 n14 n15 hX hp, fun post hp => bl_y_ec (p := bl_yb r + t) h3 q240 hgt ?_ ?_ ?_ hY ?_⟩
  · omega
  · exact bl_St_cg (Nat.le_refl _) (Nat.le_refl _) d h _ s (fun i hi => by simp only [bl_x, upd, vp_updL, if_neg (show ¬ i = d by omega)]) (fun i hi => by simp only [bl_y, upd, if_neg (show ¬ i = h by omega), hbp i (by omega)]) S
  · intro t' p' a1 a2 a3 a4 a5 a6
    have e := uq p' a3 a4
    subst e
    refine n12 a5 ?_
    rw [a6, a2]
    exact (nI_add 16 t').symm
  · intro k
    rw [kq] at k
    rw [nq]
    obtain ⟨j, hj, ej⟩ := bl_tk4 tk (Or.inr (Or.inl k))
    have := n12 k
    rw [ej] at this ⊢
    exact fun y => this ((bl_er_12 hen hj).mpr y)
  · intro k z
    rw [kq] at k
    exact (bl_er_16 hen).mp (n14 k (hz.mpr z))
  · intro k z
    rw [kq] at k
    exact n15 k (hz.mpr z)
  · rw [← hob]; exact hp
theorem bl_N_catch (C : bl_Cf L dl kX vX df pr sp kY nY en ln) (hcl : cl ≤ st) (hst : st ≤ 300) (So : bl_So sp ss so po sc) (Co : bl_Co kX vX L cc cs cy cb sc cl) (P : bl_Po cl pl pk pv) (V : bl_Vo cl sc sv pk pv) (hd : d + 1 ≤ st) (hw : 3001 * sc + (3009 + s) ≤ 3010 * st) (S : bl_St kX vX L sc cl (bl_x fc fs fb fd fv fe kp kv) (bl_y gt ph ge gk gv bp ok ov ob) d h (fb d) s) (hen : bl_er cl (bl_hc kX vX (bl_x fc fs fb fd fv fe kp kv) (d + 1)) xe xg yt yc yk yv) (hr : r < 5) (ht : t < L r) (hfc : fc d = nI (48 * r + t)) (hgt : gt h = nI (bl_yb r + t)) (hge : fs d = ge h) (hfs : bl_sc sc (fs d)) (hob : fb d = ob h) (hk : kX (48 * r + t) = 12) (hfd : fd d = 0) (hph : ph h = 0) (hkp : kp d = -1) (hbp : bp h = -1) (hxb : xb = fb d) (hm : xe = 16 + vX (48 * r + t)) : ∃ u' v' q, q < 3010 * (300 - st) + (3009 + s) ∧ bl_RR L q u' v' ∧ (∀ post : SX → Prop, post u' → wpX_unwindFrame post (dl, lr, lc, (nI st), (nI (d + 1)), (nI cl), (nI sc), 2, xa, xs, xb, xg, xe, kX, vX, df, pr, sp, pl, th, fc, fs, fb, fd, fv, fe, kp, kv, cc, cs, ss, sv, so)) ∧ (∀ post : SY → Prop, post v' → wpY_end post ((nI sc), (nI cl), (nI (h + 1)), xb, (nI st), 2, ya, ys, yk, yv, yc, yt, rk, rv, kY, nY, en, ln, pr, sp, pk, pv, th, ss, po, so, cy, cb, cs, gt, ph, ge, gk, gv, bp, ok, ov, ob)) := by
  have K := C.1
  have p240 := bl_pX K hr ht
  have q240 := bl_pY K hr ht
  have kq := (bl_kY K hr ht).1
  have nq := (bl_kY K hr ht).2
  have tk := K.2.2 _ p240
  have R := C.2.1 r hr (by omega)
  have l48 := K.1 r hr
  have i240 : vp_in (nI (48 * r + t)) 240 := vp_in_nI p240 (by decide)
  have j240 : vp_in (nI (bl_yb r + t)) 240 := vp_in_nI q240 (by decide)
  have cp : (nI (48 * r + t)).toNatClampNeg = 48 * r + t := nI_clamp (by omega)
  have cq : (nI (bl_yb r + t)).toNatClampNeg = bl_yb r + t := nI_clamp (by omega)
  have hh := bl_St_le _ _ _ _ S
  have d3 : d < 300 := by omega
  have h3 : h < 320 := by omega
  have cd : (nI d).toNatClampNeg = d := nI_clamp (by omega)
  have ch : (nI h).toNatClampNeg = h := nI_clamp (by omega)
  have i3 : vp_in (nI d) 300 := vp_in_nI d3 (by decide)
  have j3 : vp_in (nI h) 320 := vp_in_nI h3 (by decide)
  have cl3 : cl < 1000 := by omega
  subst hxb
  have n5 := bl_er_5 hen
  obtain ⟨j, hj, ej⟩ := bl_tk4 tk (by rw [hk]; decide)
  have hty : yt = nI j := (bl_er_12 hen hj).mp (by rw [hm, ej])
  have hg := bl_er_v hen (by rw [hm, ej, show (16 : Int32) + nI j = nI (16 + j) from nI_add 16 j]; exact nI_le (a := 16) (by omega) (by omega))
  refine ⟨(dl, lr, lc, (nI st), (nI d), (nI cl), (nI sc), 1, xa, xs, (fb d), xg, 0, kX, vX, df, pr, sp, pl, th, fc, fs, fb, fd, fv, fe, kp, kv, cc, cs, ss, sv, so), ((nI sc), (nI cl), (nI h), (fb d), (nI st), 0, ya, ys, yk, yv, yc, yt, rk, rv, kY, nY, en, ln, pr, sp, pk, pv, th, ss, po, so, cy, cb, cs, gt, ph, ge, gk, gv, bp, ok, ov, ob), _, ?_, bl_mkG (s := s) C (by omega) hcl hst (by omega) So Co P V S hg rfl, fun post hp => ?_, fun post hp => ?_⟩
  · omega
  · refine nm_r (nI_pred d) ⟨i3, nm_r (e' := nI (48 * r + t)) (by rw [cd, hfc]) ⟨i240, nm_r (e' := 12) (by rw [cp, hk]) ⟨i3, br_t (by rw [cd]; exact hfd) (br_f n5 (br_t rfl ⟨i240, ?_⟩))⟩⟩⟩
    rw [cp]
    exact br_t hm (bl_x_cl1 d3 hkp hp)
  · refine nm_r (nI_pred h) ⟨j3, nm_r (e' := nI (bl_yb r + t)) (by rw [ch, hgt]) ⟨j240, nm_r (e' := 12) (by rw [cq, kq, hk]) ⟨j3, br_t (by rw [ch]; exact hph) (bl_y_gb1 h3 hbp ⟨j3, nm_r (e' := fb d) (by rw [ch, hob]) (br_f (by decide) (br_f (by decide) (nm_r (nI_pred h) (br_t rfl ⟨j240, ?_⟩))))⟩)⟩⟩⟩
    rw [cq, nq, ej]
    exact br_t hty hp
theorem bl_N_try (C : bl_Cf L dl kX vX df pr sp kY nY en ln) (hcl : cl ≤ st) (hst : st ≤ 300) (So : bl_So sp ss so po sc) (Co : bl_Co kX vX L cc cs cy cb sc cl) (P : bl_Po cl pl pk pv) (V : bl_Vo cl sc sv pk pv) (hd : d + 1 ≤ st) (hw : 3001 * sc + (3009 + s) ≤ 3010 * st) (S : bl_St kX vX L sc cl (bl_x fc fs fb fd fv fe kp kv) (bl_y gt ph ge gk gv bp ok ov ob) d h (fb d) s) (hen : bl_er cl (bl_hc kX vX (bl_x fc fs fb fd fv fe kp kv) (d + 1)) xe xg yt yc yk yv) (hr : r < 5) (ht : t < L r) (hfc : fc d = nI (48 * r + t)) (hgt : gt h = nI (bl_yb r + t)) (hge : fs d = ge h) (hfs : bl_sc sc (fs d)) (hob : fb d = ob h) (hk : kX (48 * r + t) = 14) (hfd : fd d = 0) (hph : ph h = 0) (hkp : kp d = -1) (hbp : bp h = -1) (hxb : xb = fb d) (hm : ¬ 16 ≤ xe) : ∃ u' v' q, q < 3010 * (300 - st) + (3009 + s) ∧ bl_RR L q u' v' ∧ (∀ post : SX → Prop, post u' → wpX_unwindFrame post (dl, lr, lc, (nI st), (nI (d + 1)), (nI cl), (nI sc), 2, xa, xs, xb, xg, xe, kX, vX, df, pr, sp, pl, th, fc, fs, fb, fd, fv, fe, kp, kv, cc, cs, ss, sv, so)) ∧ (∀ post : SY → Prop, post v' → wpY_end post ((nI sc), (nI cl), (nI (h + 1)), xb, (nI st), 2, ya, ys, yk, yv, yc, yt, rk, rv, kY, nY, en, ln, pr, sp, pk, pv, th, ss, po, so, cy, cb, cs, gt, ph, ge, gk, gv, bp, ok, ov, ob)) := by
  have K := C.1
  have p240 := bl_pX K hr ht
  have q240 := bl_pY K hr ht
  have kq := (bl_kY K hr ht).1
  have nq := (bl_kY K hr ht).2
  have tk := K.2.2 _ p240
  have R := C.2.1 r hr (by omega)
  have l48 := K.1 r hr
  have i240 : vp_in (nI (48 * r + t)) 240 := vp_in_nI p240 (by decide)
  have j240 : vp_in (nI (bl_yb r + t)) 240 := vp_in_nI q240 (by decide)
  have cp : (nI (48 * r + t)).toNatClampNeg = 48 * r + t := nI_clamp (by omega)
  have cq : (nI (bl_yb r + t)).toNatClampNeg = bl_yb r + t := nI_clamp (by omega)
  have hh := bl_St_le _ _ _ _ S
  have d3 : d < 300 := by omega
  have h3 : h < 320 := by omega
  have cd : (nI d).toNatClampNeg = d := nI_clamp (by omega)
  have ch : (nI h).toNatClampNeg = h := nI_clamp (by omega)
  have i3 : vp_in (nI d) 300 := vp_in_nI d3 (by decide)
  have j3 : vp_in (nI h) 320 := vp_in_nI h3 (by decide)
  have cl3 : cl < 1000 := by omega
  subst hxb
  have n5 := bl_er_5 hen
  have nt : ¬ 0 ≤ yt := fun z => hm ((bl_er_16 hen).mpr z)
  have ka : 1 < bl_ar (kX (48 * r + t)) := by rw [hk]; decide
  have t1 := bl_p0 R ht (by omega)
  have y1 := bl_pY K hr t1
  obtain ⟨m, hm2, E1, he⟩ := bl_p1 R ht ka
  refine ⟨(dl, lr, lc, (nI st), (nI (d + 1)), (nI cl), (nI sc), 0, (nI (48 * r + m)), (fs d), (fb d), xg, xe, kX, vX, df, pr, sp, pl, th, fc, fs, fb, (upd fd d 1), fv, fe, kp, kv, cc, cs, ss, sv, so), ((nI sc), (nI cl), (nI h), (fb d), (nI st), 1, (nI (bl_yb r + m)), (fs d), yk, yv, yc, yt, rk, rv, kY, nY, en, ln, pr, sp, pk, pv, th, ss, po, so, cy, cb, cs, gt, ph, ge, gk, gv, bp, ok, ov, ob), _, ?_, bl_mkE (s := 6 + s) C (by omega) hcl hst (by omega) So Co P V ?_ hfs hr hm2 rfl, fun post hp => ?_, fun post hp => ?_⟩
  · omega
  · exact Or.inl ⟨s, rfl, ⟨r, t, hr, ht, hfc, Or.inr (Or.inr hk), pk_us, hkp, rfl⟩, bl_St_cg (Nat.le_refl _) (Nat.le_refl _) d h _ s (fun i hi => by simp only [bl_x, upd, vp_updL, if_neg (show ¬ i = d by omega)]) (fun _ _ => rfl) S⟩
  · exact nm_r (nI_pred d) ⟨i3, nm_r (e' := nI (48 * r + t)) (by rw [cd, hfc]) ⟨i240, nm_r (e' := 14) (by rw [cp, hk]) ⟨i3, br_t (by rw [cd]; exact hfd) (br_f n5 (br_f (by decide) (br_t rfl (br_f (by decide) (br_f hm ⟨i3, nm_r (e' := upd fd d 1) (by rw [cd]) (bl_x_sp2 K.2.2 hr (by omega) E1 d3 p240 hfc hp)⟩)))))⟩⟩⟩
  · refine nm_r (nI_pred h) ⟨j3, nm_r (e' := nI (bl_yb r + t)) (by rw [ch, hgt]) ⟨j240, nm_r (e' := 14) (by rw [cq, kq, hk]) ⟨j3, br_t (by rw [ch]; exact hph) (bl_y_gb1 h3 hbp ⟨j3, nm_r (e' := fb d) (by rw [ch, hob]) (br_f (by decide) (br_f (by decide) (nm_r (nI_pred h) (br_f (by decide) (br_f (by decide) (br_t rfl (br_f nt (bl_y_op1 y1 he ⟨j3, ?_⟩))))))))⟩)⟩⟩⟩
    rw [ch, ← hge]; exact hp
theorem bl_N_prot (C : bl_Cf L dl kX vX df pr sp kY nY en ln) (hcl : cl ≤ st) (hst : st ≤ 300) (So : bl_So sp ss so po sc) (Co : bl_Co kX vX L cc cs cy cb sc cl) (P : bl_Po cl pl pk pv) (V : bl_Vo cl sc sv pk pv) (hd : d + 1 ≤ st) (hw : 3001 * sc + (3009 + s) ≤ 3010 * st) (S : bl_St kX vX L sc cl (bl_x fc fs fb fd fv fe kp kv) (bl_y gt ph ge gk gv bp ok ov ob) d h (fb d) s) (hen : bl_er cl (bl_hc kX vX (bl_x fc fs fb fd fv fe kp kv) (d + 1)) xe xg yt yc yk yv) (hr : r < 5) (ht : t < L r) (hfc : fc d = nI (48 * r + t)) (hgt : gt h = nI (bl_yb r + t)) (hge : fs d = ge h) (hfs : bl_sc sc (fs d)) (hob : fb d = ob h) (hk : kX (48 * r + t) = 15) (hfd : fd d = 0) (hph : ph h = 0) (hkp : kp d = -1) (hbp : bp h = -1) (hxb : xb = fb d) : ∃ u' v' q, q < 3010 * (300 - st) + (3009 + s) ∧ bl_RR L q u' v' ∧ (∀ post : SX → Prop, post u' → wpX_unwindFrame post (dl, lr, lc, (nI st), (nI (d + 1)), (nI cl), (nI sc), 2, xa, xs, xb, xg, xe, kX, vX, df, pr, sp, pl, th, fc, fs, fb, fd, fv, fe, kp, kv, cc, cs, ss, sv, so)) ∧ (∀ post : SY → Prop, post v' → wpY_end post ((nI sc), (nI cl), (nI (h + 1)), xb, (nI st), 2, ya, ys, yk, yv, yc, yt, rk, rv, kY, nY, en, ln, pr, sp, pk, pv, th, ss, po, so, cy, cb, cs, gt, ph, ge, gk, gv, bp, ok, ov, ob)) := by
  have K := C.1
  have p240 := bl_pX K hr ht
  have q240 := bl_pY K hr ht
  have kq := (bl_kY K hr ht).1
  have nq := (bl_kY K hr ht).2
  have tk := K.2.2 _ p240
  have R := C.2.1 r hr (by omega)
  have l48 := K.1 r hr
  have i240 : vp_in (nI (48 * r + t)) 240 := vp_in_nI p240 (by decide)
  have j240 : vp_in (nI (bl_yb r + t)) 240 := vp_in_nI q240 (by decide)
  have cp : (nI (48 * r + t)).toNatClampNeg = 48 * r + t := nI_clamp (by omega)
  have cq : (nI (bl_yb r + t)).toNatClampNeg = bl_yb r + t := nI_clamp (by omega)
  have hh := bl_St_le _ _ _ _ S
  have d3 : d < 300 := by omega
  have h3 : h < 320 := by omega
  have cd : (nI d).toNatClampNeg = d := nI_clamp (by omega)
  have ch : (nI h).toNatClampNeg = h := nI_clamp (by omega)
  have i3 : vp_in (nI d) 300 := vp_in_nI d3 (by decide)
  have j3 : vp_in (nI h) 320 := vp_in_nI h3 (by decide)
  have cl3 : cl < 1000 := by omega
  have uq : ∀ p', p' < 240 → fc d = nI p' → p' = 48 * r + t := by
    intro p' l' e
    rw [hfc] at e
    exact ((nI_eq (by omega) (by omega)).mp e).symm
  subst hxb
  have n5 := bl_er_5 hen
  have ka : 1 < bl_ar (kX (48 * r + t)) := by rw [hk]; decide
  have t1 := bl_p0 R ht (by omega)
  have y1 := bl_pY K hr t1
  obtain ⟨m, hm, E1, he⟩ := bl_p1 R ht ka
  refine ⟨(dl, lr, lc, (nI st), (nI (d + 1)), (nI cl), (nI sc), 0, (nI (48 * r + m)), (fs d), (fb d), xg, xe, kX, vX, df, pr, sp, pl, th, fc, fs, fb, (upd fd d 1), (vp_updL fv d xg), (upd fe d xe), kp, kv, cc, cs, ss, sv, so), ((nI sc), (nI cl), (nI (h + 1)), (fb d), (nI st), 1, (nI (bl_yb r + m)), (fs d), yk, yv, yc, yt, rk, rv, kY, nY, en, ln, pr, sp, pk, pv, th, ss, po, so, cy, cb, cs, gt, (upd ph h 2), ge, (upd gk h yk), (upd gv h yv), bp, (upd ok h yt), (upd ov h yc), ob), _, ?_, bl_mkE (s := 6 + s) C (by omega) hcl hst (by omega) So Co P V ?_ hfs hr hm rfl, fun post hp => ?_, fun post hp => ?_⟩
  · omega
  · refine bl_St_mk (r := r) (t := t) (e := 1) hr ht hfc hgt hge hfs hob pk_us (by rw [hk]; decide) (by rw [hk]; rfl) (Or.inr (Or.inr (Or.inr (Or.inr (Or.inr ⟨rfl, pk_us, hk, hkp, hbp, ?_⟩))))) (bl_St_cg (Nat.le_refl _) (Nat.le_refl _) d h _ s (fun i hi => by simp only [bl_x, upd, vp_updL, if_neg (show ¬ i = d by omega)]) (fun i hi => by simp only [bl_y, upd, if_neg (show ¬ i = h by omega)]) S)
    rw [pk_us, pk_uLs, pk_us, pk_us, pk_us, pk_us]
    refine bl_er_up (Nat.le_refl _) (fun t => bl_hc_cg (fun i hi => by simp only [bl_x, upd, vp_updL, if_neg (show ¬ i = d by omega)])) (bl_er_dn hen ?_)
    intro t' p' a1 a2 a3 a4 a5
    rw [uq p' a3 a4, hk] at a5
    exact absurd a5 (by decide)
  · exact nm_r (nI_pred d) ⟨i3, nm_r (e' := nI (48 * r + t)) (by rw [cd, hfc]) ⟨i240, nm_r (e' := 15) (by rw [cp, hk]) ⟨i3, br_t (by rw [cd]; exact hfd) (br_f n5 (br_f (by decide) (br_f (by decide) (br_t rfl (br_f (by decide) ⟨i3, nm_r (e' := upd fd d 1) (by rw [cd]) ⟨i3, nm_r (e' := vp_updL fv d xg) (by rw [cd]) ⟨i3, nm_r (e' := upd fe d xe) (by rw [cd]) (bl_x_sp2 K.2.2 hr (by omega) E1 d3 p240 hfc hp)⟩⟩⟩)))))⟩⟩⟩
  · refine nm_r (nI_pred h) ⟨j3, nm_r (e' := nI (bl_yb r + t)) (by rw [ch, hgt]) ⟨j240, nm_r (e' := 15) (by rw [cq, kq, hk]) ⟨j3, br_t (by rw [ch]; exact hph) (bl_y_gb1 h3 hbp ⟨j3, nm_r (e' := fb d) (by rw [ch, hob]) (br_f (by decide) (br_t rfl ⟨j3, nm_r (e' := upd ph h 2) (by rw [ch]) ⟨j3, nm_r (e' := upd ok h yt) (by rw [ch]) ⟨j3, nm_r (e' := upd ov h yc) (by rw [ch]) ⟨j3, nm_r (e' := upd gk h yk) (by rw [ch]) ⟨j3, nm_r (e' := upd gv h yv) (by rw [ch]) (bl_y_op1 y1 he ⟨j3, ?_⟩)⟩⟩⟩⟩⟩))⟩)⟩⟩⟩
    rw [ch, ← hge]; exact hp
theorem bl_N_inert (C : bl_Cf L dl kX vX df pr sp kY nY en ln) (hcl : cl ≤ st) (hst : st ≤ 300) (So : bl_So sp ss so po sc) (Co : bl_Co kX vX L cc cs cy cb sc cl) (P : bl_Po cl pl pk pv) (V : bl_Vo cl sc sv pk pv) (hd : d + 1 ≤ st) (hw : 3001 * sc + (6 + s) ≤ 3010 * st) (S : bl_St kX vX L sc cl (bl_x fc fs fb fd fv fe kp kv) (bl_y gt ph ge gk gv bp ok ov ob) d h (fb d) s) (hen : bl_er cl (bl_hc kX vX (bl_x fc fs fb fd fv fe kp kv) (d + 1)) xe xg yt yc yk yv) (hr : r < 5) (ht : t < L r) (hfc : fc d = nI (48 * r + t)) (hk : kX (48 * r + t) = 7 ∨ kX (48 * r + t) = 8 ∨ kX (48 * r + t) = 14) (hfd : fd d = 1) (hkp : kp d = -1) (hxb : xb = fb d) : ∃ u' q, q < 3010 * (300 - st) + (6 + s) ∧ bl_RR L q u' ((nI sc), (nI cl), (nI h), xb, (nI st), 2, ya, ys, yk, yv, yc, yt, rk, rv, kY, nY, en, ln, pr, sp, pk, pv, th, ss, po, so, cy, cb, cs, gt, ph, ge, gk, gv, bp, ok, ov, ob) ∧ (∀ post : SX → Prop, post u' → wpX_unwindFrame post (dl, lr, lc, (nI st), (nI (d + 1)), (nI cl), (nI sc), 2, xa, xs, xb, xg, xe, kX, vX, df, pr, sp, pl, th, fc, fs, fb, fd, fv, fe, kp, kv, cc, cs, ss, sv, so)) := by
  have K := C.1
  have p240 := bl_pX K hr ht
  have q240 := bl_pY K hr ht
  have kq := (bl_kY K hr ht).1
  have nq := (bl_kY K hr ht).2
  have tk := K.2.2 _ p240
  have R := C.2.1 r hr (by omega)
  have l48 := K.1 r hr
  have i240 : vp_in (nI (48 * r + t)) 240 := vp_in_nI p240 (by decide)
  have j240 : vp_in (nI (bl_yb r + t)) 240 := vp_in_nI q240 (by decide)
  have cp : (nI (48 * r + t)).toNatClampNeg = 48 * r + t := nI_clamp (by omega)
  have cq : (nI (bl_yb r + t)).toNatClampNeg = bl_yb r + t := nI_clamp (by omega)
  have hh := bl_St_le _ _ _ _ S
  have d3 : d < 300 := by omega
  have h3 : h < 320 := by omega
  have cd : (nI d).toNatClampNeg = d := nI_clamp (by omega)
  have ch : (nI h).toNatClampNeg = h := nI_clamp (by omega)
  have i3 : vp_in (nI d) 300 := vp_in_nI d3 (by decide)
  have j3 : vp_in (nI h) 320 := vp_in_nI h3 (by decide)
  have cl3 : cl < 1000 := by omega
  have uq : ∀ p', p' < 240 → fc d = nI p' → p' = 48 * r + t := by
    intro p' l' e
    rw [hfc] at e
    exact ((nI_eq (by omega) (by omega)).mp e).symm
  have nk : ¬ kX (48 * r + t) = 12 ∧ ¬ kX (48 * r + t) = 15 := by
    rcases hk with z | z | z <;> rw [z] <;> decide
  obtain ⟨n12, n15⟩ := nk
  subst hxb
  refine ⟨(dl, lr, lc, (nI st), (nI d), (nI cl), (nI sc), 2, xa, xs, (fb d), xg, xe, kX, vX, df, pr, sp, pl, th, fc, fs, fb, fd, fv, fe, kp, kv, cc, cs, ss, sv, so), _, ?_, bl_mkN (s := s) C (by omega) hcl hst (by omega) So Co P V (Or.inl S) (bl_er_dn hen ?_) rfl, fun post hp => bl_x_uc (pl' := pl) d3 p240 hfc (fun z => absurd z n12) (fun _ z => by rw [hfd] at z; exact absurd z (by decide)) (fun z => absurd z n15) (fun post hp => bl_x_cl1 d3 hkp hp) hp⟩
  · omega
  · intro t' p' a1 a2 a3 a4 a5
    rw [uq p' a3 a4] at a5
    exact absurd a5 n12
theorem bl_N_trans (C : bl_Cf L dl kX vX df pr sp kY nY en ln) (hcl : cl ≤ st) (hst : st ≤ 300) (So : bl_So sp ss so po sc) (Co : bl_Co kX vX L cc cs cy cb sc cl) (P : bl_Po cl pl pk pv) (V : bl_Vo cl sc sv pk pv) (hd : d + 1 ≤ st) (hw : 3001 * sc + (1 + s) ≤ 3010 * st) (S : bl_St kX vX L sc cl (bl_x fc fs fb fd fv fe kp kv) (bl_y gt ph ge gk gv bp ok ov ob) d h (fb d) s) (hen : bl_er cl (bl_hc kX vX (bl_x fc fs fb fd fv fe kp kv) (d + 1)) xe xg yt yc yk yv) (hr : r < 5) (ht : t < L r) (hfc : fc d = nI (48 * r + t)) (hk : kX (48 * r + t) = 5 ∨ kX (48 * r + t) = 6 ∨ kX (48 * r + t) = 9 ∨ kX (48 * r + t) = 10 ∨ kX (48 * r + t) = 11 ∨ kX (48 * r + t) = 13) (hkp : kp d = -1) (hxb : xb = fb d) : ∃ u' q, q < 3010 * (300 - st) + (1 + s) ∧ bl_RR L q u' ((nI sc), (nI cl), (nI h), xb, (nI st), 2, ya, ys, yk, yv, yc, yt, rk, rv, kY, nY, en, ln, pr, sp, pk, pv, th, ss, po, so, cy, cb, cs, gt, ph, ge, gk, gv, bp, ok, ov, ob) ∧ (∀ post : SX → Prop, post u' → wpX_unwindFrame post (dl, lr, lc, (nI st), (nI (d + 1)), (nI cl), (nI sc), 2, xa, xs, xb, xg, xe, kX, vX, df, pr, sp, pl, th, fc, fs, fb, fd, fv, fe, kp, kv, cc, cs, ss, sv, so)) := by
  have K := C.1
  have p240 := bl_pX K hr ht
  have q240 := bl_pY K hr ht
  have kq := (bl_kY K hr ht).1
  have nq := (bl_kY K hr ht).2
  have tk := K.2.2 _ p240
  have R := C.2.1 r hr (by omega)
  have l48 := K.1 r hr
  have i240 : vp_in (nI (48 * r + t)) 240 := vp_in_nI p240 (by decide)
  have j240 : vp_in (nI (bl_yb r + t)) 240 := vp_in_nI q240 (by decide)
  have cp : (nI (48 * r + t)).toNatClampNeg = 48 * r + t := nI_clamp (by omega)
  have cq : (nI (bl_yb r + t)).toNatClampNeg = bl_yb r + t := nI_clamp (by omega)
  have hh := bl_St_le _ _ _ _ S
  have d3 : d < 300 := by omega
  have h3 : h < 320 := by omega
  have cd : (nI d).toNatClampNeg = d := nI_clamp (by omega)
  have ch : (nI h).toNatClampNeg = h := nI_clamp (by omega)
  have i3 : vp_in (nI d) 300 := vp_in_nI d3 (by decide)
  have j3 : vp_in (nI h) 320 := vp_in_nI h3 (by decide)
  have cl3 : cl < 1000 := by omega
  have uq : ∀ p', p' < 240 → fc d = nI p' → p' = 48 * r + t := by
    intro p' l' e
    rw [hfc] at e
    exact ((nI_eq (by omega) (by omega)).mp e).symm
  have nk : ¬ kX (48 * r + t) = 12 ∧ ¬ kX (48 * r + t) = 15 ∧ ¬ kX (48 * r + t) = 14 := by
    rcases hk with z | z | z | z | z | z <;> rw [z] <;> decide
  obtain ⟨n12, n15, n14⟩ := nk
  subst hxb
  refine ⟨(dl, lr, lc, (nI st), (nI d), (nI cl), (nI sc), 2, xa, xs, (fb d), xg, xe, kX, vX, df, pr, sp, pl, th, fc, fs, fb, fd, fv, fe, kp, kv, cc, cs, ss, sv, so), _, ?_, bl_mkN (s := s) C (by omega) hcl hst (by omega) So Co P V (Or.inl S) (bl_er_dn hen ?_) rfl, fun post hp => bl_x_uc (pl' := pl) d3 p240 hfc (fun z => absurd z n12) (fun z _ => absurd z n14) (fun z => absurd z n15) (fun post hp => bl_x_cl1 d3 hkp hp) hp⟩
  · omega
  · intro t' p' a1 a2 a3 a4 a5
    rw [uq p' a3 a4] at a5
    exact absurd a5 n12
end
