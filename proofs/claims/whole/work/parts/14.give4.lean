/-! turns: a value is given to the frame on top (4) -/
section
variable {dl lc xst xd xcl xsc xm xa xs xb xe yen ycl yw ym ya ys yk yv yc yt rk rv : Int32}
variable {lr xg : Int64}
variable {kX vX df pr sp th fc fs fb fd fe kp cc cs ss so kY nY en ln pk pv po cy cb gt ph ge gk gv bp ok ov ob : Nat → Int32}
variable {pl fv kv sv : Nat → Int64}
variable {L : Nat → Nat} {q d h sc cl st s r t m m2 p j b w e : Nat}
theorem bl_G_throw (C : bl_Cf L dl kX vX df pr sp kY nY en ln) (hcl : cl ≤ st) (hst : st ≤ 300) (So : bl_So sp ss so po sc) (Co : bl_Co kX vX L cc cs cy cb sc cl) (P : bl_Po cl pl pk pv) (V : bl_Vo cl sc sv pk pv) (hd : d + 1 ≤ st) (hw : 3001 * sc + (3009 + s) ≤ 3010 * st) (S : bl_St kX vX L sc cl (bl_x fc fs fb fd fv fe kp kv) (bl_y gt ph ge gk gv bp ok ov ob) d h (fb d) s) (hg : bl_vg cl xg yk yv) (hr : r < 5) (ht : t < L r) (hfc : fc d = nI (48 * r + t)) (hgt : gt h = nI (bl_yb r + t)) (hge : fs d = ge h) (hfs : bl_sc sc (fs d)) (hob : fb d = ob h) (hk : kX (48 * r + t) = 13) (hfd : fd d = 0) (hph : ph h = 0) (hkp : kp d = -1) (hbp : bp h = -1) (hxb : xb = fb d) : ∃ u' v' q, q < 3010 * (300 - st) + (3009 + s) ∧ bl_RR L q u' v' ∧ (∀ post : SX → Prop, post u' → wpX_resumeFrame post (dl, lr, lc, (nI st), (nI (d + 1)), (nI cl), (nI sc), 1, xa, xs, xb, xg, 0, kX, vX, df, pr, sp, pl, th, fc, fs, fb, fd, fv, fe, kp, kv, cc, cs, ss, sv, so)) ∧ (∀ post : SY → Prop, post v' → wpY_give post ((nI sc), (nI cl), (nI (h + 1)), xb, (nI st), 0, ya, ys, yk, yv, yc, yt, rk, rv, kY, nY, en, ln, pr, sp, pk, pv, th, ss, po, so, cy, cb, cs, gt, ph, ge, gk, gv, bp, ok, ov, ob)) := by
  have K := C.1
  have p240 := bl_pX K hr ht
  have q240 := bl_pY K hr ht
  have kq := (bl_kY K hr ht).1
  have nq := (bl_kY K hr ht).2
  have tk := K.2.2 _ p240
  have R := C.2.1 r hr (by omega)
  have l48 := K.1 r hr
  have i240 : vp_in (nI (48 * r + t)) 240 := vp_in_nI p240 (by decide)
  have j240 : vp_in (nI (bl_yb r + t)) 240 := vp_in_nI q240 (by decide)
  have cp : (nI (48 * r + t)).toNatClampNeg = 48 * r + t := nI_clamp (by omega)
  have cq : (nI (bl_yb r + t)).toNatClampNeg = bl_yb r + t := nI_clamp (by omega)
  have hh := bl_St_le _ _ _ _ S
  have d3 : d < 300 := by omega
  have h3 : h < 320 := by omega
  have cd : (nI d).toNatClampNeg = d := nI_clamp (by omega)
  have ch : (nI h).toNatClampNeg = h := nI_clamp (by omega)
  have i3 : vp_in (nI d) 300 := vp_in_nI d3 (by decide)
  have j3 : vp_in (nI h) 320 := vp_in_nI h3 (by decide)
  have cl3 : cl < 1000 := by omega
  subst hxb
  obtain ⟨j, hj, ej⟩ := bl_tk4 tk (by rw [hk]; decide)
  have fcs := bl_St_fc K.1 _ _ _ _ S
  have gts := bl_St_gt K.1 _ _ _ _ S
  have hx : ∀ i, i < d + 1 → ∃ p, p < 240 ∧ fc i = nI p := by
    intro i hi
    by_cases c : i = d
    · subst c; exact ⟨48 * r + t, p240, hfc⟩
    · exact fcs i (by omega)
  have S1 : bl_St kX vX L sc cl (bl_x fc fs fb (upd fd d 1) fv fe kp kv) (bl_y gt (upd ph h 1) ge gk gv bp ok ov ob) d h (fb d) s := bl_St_cg (Nat.le_refl _) (Nat.le_refl _) d h _ s (fun i hi => by simp only [bl_x, upd, vp_updL, if_neg (show ¬ i = d by omega)]) (fun i hi => by simp only [bl_y, upd, if_neg (show ¬ i = h by omega)]) S
  have dn : bl_hc kX vX (bl_x fc fs fb (upd fd d 1) fv fe kp kv) (d + 1) j → bl_hc kX vX (bl_x fc fs fb (upd fd d 1) fv fe kp kv) d j := by
    intro z
    refine bl_hc_dn z (fun p p1 p2 p3 => ?_)
    have p2 : fc d = nI p := p2
    rw [hfc, nI_eq (by omega) (by omega)] at p2
    rw [← p2, hk] at p3
    exact absurd p3 (by decide)
  have hcy := bl_St_hc K j d h _ s S1
  by_cases z : bl_hc kX vX (bl_x fc fs fb (upd fd d 1) fv fe kp kv) d j
  · refine ⟨(dl, lr, lc, (nI st), (nI (d + 1)), (nI cl), (nI sc), 2, xa, xs, (fb d), xg, (nI (16 + j)), kX, vX, df, pr, sp, pl, th, fc, fs, fb, (upd fd d 1), fv, fe, kp, kv, cc, cs, ss, sv, so), ((nI sc), (nI cl), (nI h), (fb d), (nI st), 2, ya, ys, yk, yv, 0, (nI j), rk, rv, kY, nY, en, ln, pr, sp, pk, pv, th, ss, po, so, cy, cb, cs, gt, (upd ph h 1), ge, gk, gv, bp, ok, ov, ob), _, ?_, bl_mkN (s := 1 + s) C (by omega) hcl hst (by omega) So Co P V (Or.inr ⟨d, s, rfl, rfl, ⟨r, t, hr, ht, hfc, Or.inr (Or.inr (Or.inr (Or.inr (Or.inr hk)))), hkp, rfl⟩, bl_St_cg (Nat.le_refl _) (Nat.le_refl _) d h _ s (fun i hi => by simp only [bl_x, upd, vp_updL, if_neg (show ¬ i = d by omega)]) (fun i hi => by simp only [bl_y, upd, if_neg (show ¬ i = h by omega)]) S⟩) (Or.inr ⟨j, hj, rfl, rfl, rfl, bl_hc_up (by omega) z, hg⟩) rfl, fun post hp => ?_, fun post hp => ?_⟩
    · omega
    · refine nm_r (nI_pred d) ⟨i3, nm_r (e' := nI (48 * r + t)) (by rw [cd, hfc]) ⟨i3, i3, nm_r (e' := upd fd d 1) (by rw [cd, hfd]; rfl) ⟨i240, nm_r (e' := 13) (by rw [cp, hk]) (br_f (by decide) (br_f (by decide) (br_f (by decide) (br_f (by decide) (br_f (by decide) (br_f (by decide) (br_f (by decide) (br_f (by decide) (br_f (by decide) (br_f (by decide) (br_f (by decide) (br_f (by decide) (br_f (by decide) (br_t rfl (⟨i240, ?_⟩)))))))))))))))⟩⟩⟩
      rw [cp, ej]
      refine bl_x_hc hx (by omega) hj (fun _ => br_f (by decide) ?_) (fun n => absurd (bl_hc_up (by omega) z) n)
      rw [show (16 : Int32) + nI j = nI (16 + j) from nI_add 16 j]
      exact hp
    · refine nm_r (nI_pred h) ⟨j3, nm_r (e' := nI (bl_yb r + t)) (by rw [ch, hgt]) ⟨j240, nm_r (e' := 13) (by rw [cq, kq, hk]) ⟨j240, nm_r (e' := vX (48 * r + t)) (by rw [cq, nq]) ⟨j3, nm_r (e' := 0) (by rw [ch, hph]) ⟨j3, j3, nm_r (e' := upd ph h 1) (by rw [ch, hph]; rfl) (br_f (by decide) (br_f (by decide) (br_t (by decide) (br_t rfl (br_f (by decide) (br_t rfl (br_f (by decide) (br_f (by decide) (br_f (by decide) (br_f (by decide) (br_f (by decide) (br_f (by decide) (br_f (by decide) (br_f (by decide) (br_f (by decide) (br_f (by decide) (nm_r (nI_pred h) (bl_y_gb1 h3 hbp ⟨j3, nm_r (e' := fb d) (by rw [ch, hob]) (br_f (by decide) (br_f (by decide) (br_f (by decide) (br_t (by decide) (br_t rfl ?_)))))⟩))))))))))))))))))⟩⟩⟩⟩⟩
      rw [ej]
      exact bl_y_hu gts (by omega) hj (fun _ => hp) (fun n => absurd (hcy.mp z) n)
  · refine ⟨(dl, lr, lc, (nI st), (nI (d + 1)), (nI cl), (nI sc), 2, xa, xs, (fb d), xg, 3, kX, vX, df, pr, sp, pl, th, fc, fs, fb, (upd fd d 1), fv, fe, kp, kv, cc, cs, ss, sv, so), ((nI sc), (nI cl), (nI h), (fb d), (nI st), 2, ya, ys, yk, yv, 3, (-1), rk, rv, kY, nY, en, ln, pr, sp, pk, pv, th, ss, po, so, cy, cb, cs, gt, (upd ph h 1), ge, gk, gv, bp, ok, ov, ob), _, ?_, bl_mkN (s := 1 + s) C (by omega) hcl hst (by omega) So Co P V (Or.inr ⟨d, s, rfl, rfl, ⟨r, t, hr, ht, hfc, Or.inr (Or.inr (Or.inr (Or.inr (Or.inr hk)))), hkp, rfl⟩, bl_St_cg (Nat.le_refl _) (Nat.le_refl _) d h _ s (fun i hi => by simp only [bl_x, upd, vp_updL, if_neg (show ¬ i = d by omega)]) (fun i hi => by simp only [bl_y, upd, if_neg (show ¬ i = h by omega)]) S⟩) (Or.inl ⟨3, by omega, by omega, rfl, rfl, rfl⟩) rfl, fun post hp => ?_, fun post hp => ?_⟩
    · omega
    · refine nm_r (nI_pred d) ⟨i3, nm_r (e' := nI (48 * r + t)) (by rw [cd, hfc]) ⟨i3, i3, nm_r (e' := upd fd d 1) (by rw [cd, hfd]; rfl) ⟨i240, nm_r (e' := 13) (by rw [cp, hk]) (br_f (by decide) (br_f (by decide) (br_f (by decide) (br_f (by decide) (br_f (by decide) (br_f (by decide) (br_f (by decide) (br_f (by decide) (br_f (by decide) (br_f (by decide) (br_f (by decide) (br_f (by decide) (br_f (by decide) (br_t rfl (⟨i240, ?_⟩)))))))))))))))⟩⟩⟩
      rw [cp, ej]
      exact bl_x_hc hx (by omega) hj (fun y => absurd (dn y) z) (fun n => br_t rfl hp)
    · refine nm_r (nI_pred h) ⟨j3, nm_r (e' := nI (bl_yb r + t)) (by rw [ch, hgt]) ⟨j240, nm_r (e' := 13) (by rw [cq, kq, hk]) ⟨j240, nm_r (e' := vX (48 * r + t)) (by rw [cq, nq]) ⟨j3, nm_r (e' := 0) (by rw [ch, hph]) ⟨j3, j3, nm_r (e' := upd ph h 1) (by rw [ch, hph]; rfl) (br_f (by decide) (br_f (by decide) (br_t (by decide) (br_t rfl (br_f (by decide) (br_t rfl (br_f (by decide) (br_f (by decide) (br_f (by decide) (br_f (by decide) (br_f (by decide) (br_f (by decide) (br_f (by decide) (br_f (by decide) (br_f (by decide) (br_f (by decide) (nm_r (nI_pred h) (bl_y_gb1 h3 hbp ⟨j3, nm_r (e' := fb d) (by rw [ch, hob]) (br_f (by decide) (br_f (by decide) (br_f (by decide) (br_t (by decide) (br_t rfl ?_)))))⟩))))))))))))))))))⟩⟩⟩⟩⟩
      rw [ej]
      exact bl_y_hu gts (by omega) hj (fun y => absurd (hcy.mpr y) z) (fun n => hp)
theorem bl_G_prot (C : bl_Cf L dl kX vX df pr sp kY nY en ln) (hcl : cl ≤ st) (hst : st ≤ 300) (So : bl_So sp ss so po sc) (Co : bl_Co kX vX L cc cs cy cb sc cl) (P : bl_Po cl pl pk pv) (V : bl_Vo cl sc sv pk pv) (hd : d + 1 ≤ st) (hw : 3001 * sc + (6 + s) ≤ 3010 * st) (S : bl_St kX vX L sc cl (bl_x fc fs fb fd fv fe kp kv) (bl_y gt ph ge gk gv bp ok ov ob) d h (fb d) s) (hg : bl_vg cl xg yk yv) (hr : r < 5) (ht : t < L r) (hfc : fc d = nI (48 * r + t)) (hgt : gt h = nI (bl_yb r + t)) (hge : fs d = ge h) (hfs : bl_sc sc (fs d)) (hob : fb d = ob h) (hk : kX (48 * r + t) = 15) (hfd : fd d = 1) (hph : ph h = 1) (hkp : kp d = -1) (hbp : bp h = -1) (hxb : xb = fb d) (hfe : fe d = 0) (hv : bl_vg cl (fv d) (gk h) (gv h)) : ∃ u' v' q, q < 3010 * (300 - st) + (6 + s) ∧ bl_RR L q u' v' ∧ (∀ post : SX → Prop, post u' → wpX_resumeFrame post (dl, lr, lc, (nI st), (nI (d + 1)), (nI cl), (nI sc), 1, xa, xs, xb, xg, 0, kX, vX, df, pr, sp, pl, th, fc, fs, fb, fd, fv, fe, kp, kv, cc, cs, ss, sv, so)) ∧ (∀ post : SY → Prop, post v' → wpY_give post ((nI sc), (nI cl), (nI (h + 1)), xb, (nI st), 0, ya, ys, yk, yv, yc, yt, rk, rv, kY, nY, en, ln, pr, sp, pk, pv, th, ss, po, so, cy, cb, cs, gt, ph, ge, gk, gv, bp, ok, ov, ob)) := by
  have K := C.1
  have p240 := bl_pX K hr ht
  have q240 := bl_pY K hr ht
  have kq := (bl_kY K hr ht).1
  have nq := (bl_kY K hr ht).2
  have tk := K.2.2 _ p240
  have R := C.2.1 r hr (by omega)
  have l48 := K.1 r hr
  have i240 : vp_in (nI (48 * r + t)) 240 := vp_in_nI p240 (by decide)
  have j240 : vp_in (nI (bl_yb r + t)) 240 := vp_in_nI q240 (by decide)
  have cp : (nI (48 * r + t)).toNatClampNeg = 48 * r + t := nI_clamp (by omega)
  have cq : (nI (bl_yb r + t)).toNatClampNeg = bl_yb r + t := nI_clamp (by omega)
  have hh := bl_St_le _ _ _ _ S
  have d3 : d < 300 := by omega
  have h3 : h < 320 := by omega
  have cd : (nI d).toNatClampNeg = d := nI_clamp (by omega)
  have ch : (nI h).toNatClampNeg = h := nI_clamp (by omega)
  have i3 : vp_in (nI d) 300 := vp_in_nI d3 (by decide)
  have j3 : vp_in (nI h) 320 := vp_in_nI h3 (by decide)
  have cl3 : cl < 1000 := by omega
  subst hxb
  refine ⟨(dl, lr, lc, (nI st), (nI d), (nI cl), (nI sc), 1, xa, xs, (fb d), (fv d), 0, kX, vX, df, pr, sp, pl, th, fc, fs, fb, (upd fd d 2), fv, fe, kp, kv, cc, cs, ss, sv, so), ((nI sc), (nI cl), (nI h), (fb d), (nI st), 0, ya, ys, (gk h), (gv h), yc, yt, rk, rv, kY, nY, en, ln, pr, sp, pk, pv, th, ss, po, so, cy, cb, cs, gt, (upd ph h 2), ge, gk, gv, bp, ok, ov, ob), _, ?_, bl_mkG (s := s) C (by omega) hcl hst (by omega) So Co P V (bl_St_cg (Nat.le_refl _) (Nat.le_refl _) d h _ s (fun i hi => by simp only [bl_x, upd, vp_updL, if_neg (show ¬ i = d by omega)]) (fun i hi => by simp only [bl_y, upd, if_neg (show ¬ i = h by omega)]) S) hv rfl, fun post hp => ?_, fun post hp => ?_⟩
  · omega
  · refine nm_r (nI_pred d) ⟨i3, nm_r (e' := nI (48 * r + t)) (by rw [cd, hfc]) ⟨i3, i3, nm_r (e' := upd fd d 2) (by rw [cd, hfd]; rfl) ⟨i240, nm_r (e' := 15) (by rw [cp, hk]) (br_f (by decide) (br_f (by decide) (br_f (by decide) (br_f (by decide) (br_f (by decide) (br_f (by decide) (br_f (by decide) (br_f (by decide) (br_f (by decide) (br_f (by decide) (br_f (by decide) (br_f (by decide) (br_f (by decide) (br_f (by decide) (br_f (by decide) (br_t rfl (⟨i3, br_f (by rw [cd, pk_us]; decide) (bl_x_cl1 d3 hkp ⟨i3, ?_⟩)⟩)))))))))))))))))⟩⟩⟩
    rw [cd]
    exact ⟨i3, br_t hfe hp⟩
  · refine nm_r (nI_pred h) ⟨j3, nm_r (e' := nI (bl_yb r + t)) (by rw [ch, hgt]) ⟨j240, nm_r (e' := 15) (by rw [cq, kq, hk]) ⟨j240, nm_r (e' := vX (48 * r + t)) (by rw [cq, nq]) ⟨j3, nm_r (e' := 1) (by rw [ch, hph]) ⟨j3, j3, nm_r (e' := upd ph h 2) (by rw [ch, hph]; rfl) (br_f (by decide) (br_f (by decide) (br_t (by decide) (br_f (by decide) (br_t rfl (br_t rfl (br_t rfl (br_t rfl (br_t rfl (br_t rfl (br_f (by decide) (nm_r (nI_pred h) (bl_y_gb1 h3 hbp ⟨j3, nm_r (e' := fb d) (by rw [ch, hob]) (br_f (by decide) (br_f (by decide) (br_f (by decide) (br_t (by decide) (br_f (by decide) (br_t rfl (br_t rfl ⟨j3, j3, ?_⟩)))))))⟩)))))))))))))⟩⟩⟩⟩⟩
    rw [ch]
    exact hp
theorem bl_G_pend (C : bl_Cf L dl kX vX df pr sp kY nY en ln) (hcl : cl ≤ st) (hst : st ≤ 300) (So : bl_So sp ss so po sc) (Co : bl_Co kX vX L cc cs cy cb sc cl) (P : bl_Po cl pl pk pv) (V : bl_Vo cl sc sv pk pv) (hd : d + 1 ≤ st) (hw : 3001 * sc + (6 + s) ≤ 3010 * st) (S : bl_St kX vX L sc cl (bl_x fc fs fb fd fv fe kp kv) (bl_y gt ph ge gk gv bp ok ov ob) d h (fb d) s) (hg : bl_vg cl xg yk yv) (hr : r < 5) (ht : t < L r) (hfc : fc d = nI (48 * r + t)) (hgt : gt h = nI (bl_yb r + t)) (hge : fs d = ge h) (hfs : bl_sc sc (fs d)) (hob : fb d = ob h) (hk : kX (48 * r + t) = 15) (hfd : fd d = 1) (hph : ph h = 2) (hkp : kp d = -1) (hbp : bp h = -1) (hxb : xb = fb d) (he : bl_er cl (bl_hc kX vX (bl_x fc fs fb fd fv fe kp kv) d) (fe d) (fv d) (ok h) (ov h) (gk h) (gv h)) : ∃ u' v' q, q < 3010 * (300 - st) + (6 + s) ∧ bl_RR L q u' v' ∧ (∀ post : SX → Prop, post u' → wpX_resumeFrame post (dl, lr, lc, (nI st), (nI (d + 1)), (nI cl), (nI sc), 1, xa, xs, xb, xg, 0, kX, vX, df, pr, sp, pl, th, fc, fs, fb, fd, fv, fe, kp, kv, cc, cs, ss, sv, so)) ∧ (∀ post : SY → Prop, post v' → wpY_give post ((nI sc), (nI cl), (nI (h + 1)), xb, (nI st), 0, ya, ys, yk, yv, yc, yt, rk, rv, kY, nY, en, ln, pr, sp, pk, pv, th, ss, po, so, cy, cb, cs, gt, ph, ge, gk, gv, bp, ok, ov, ob)) := by
  have K := C.1
  have p240 := bl_pX K hr ht
  have q240 := bl_pY K hr ht
  have kq := (bl_kY K hr ht).1
  have nq := (bl_kY K hr ht).2
  have tk := K.2.2 _ p240
  have R := C.2.1 r hr (by omega)
  have l48 := K.1 r hr
  have i240 : vp_in (nI (48 * r + t)) 240 := vp_in_nI p240 (by decide)
  have j240 : vp_in (nI (bl_yb r + t)) 240 := vp_in_nI q240 (by decide)
  have cp : (nI (48 * r + t)).toNatClampNeg = 48 * r + t := nI_clamp (by omega)
  have cq : (nI (bl_yb r + t)).toNatClampNeg = bl_yb r + t := nI_clamp (by omega)
  have hh := bl_St_le _ _ _ _ S
  have d3 : d < 300 := by omega
  have h3 : h < 320 := by omega
  have cd : (nI d).toNatClampNeg = d := nI_clamp (by omega)
  have ch : (nI h).toNatClampNeg = h := nI_clamp (by omega)
  have i3 : vp_in (nI d) 300 := vp_in_nI d3 (by decide)
  have j3 : vp_in (nI h) 320 := vp_in_nI h3 (by decide)
  have cl3 : cl < 1000 := by omega
  subst hxb
  have nz : ¬ fe d = 0 := by
    rcases he with ⟨c, c1, c2, c3, _⟩ | ⟨c, c1, c3, _⟩
    · rw [c3]; exact nI_ne0 (by omega) (by omega)
    · rw [c3]; exact nI_ne0 (by omega) (by omega)
  refine ⟨(dl, lr, lc, (nI st), (nI d), (nI cl), (nI sc), 2, xa, xs, (fb d), (fv d), (fe d), kX, vX, df, pr, sp, pl, th, fc, fs, fb, (upd fd d 2), fv, fe, kp, kv, cc, cs, ss, sv, so), ((nI sc), (nI cl), (nI h), (fb d), (nI st), 2, ya, ys, (gk h), (gv h), (ov h), (ok h), rk, rv, kY, nY, en, ln, pr, sp, pk, pv, th, ss, po, so, cy, cb, cs, gt, (upd ph h 3), ge, gk, gv, bp, ok, ov, ob), _, ?_, bl_mkN (s := s) C (by omega) hcl hst (by omega) So Co P V (Or.inl (bl_St_cg (Nat.le_refl _) (Nat.le_refl _) d h _ s (fun i hi => by simp only [bl_x, upd, vp_updL, if_neg (show ¬ i = d by omega)]) (fun i hi => by simp only [bl_y, upd, if_neg (show ¬ i = h by omega)]) S)) (bl_er_up (Nat.le_refl _) (fun t => bl_hc_cg (fun i hi => by simp only [bl_x, upd, vp_updL, if_neg (show ¬ i = d by omega)])) he) rfl, fun post hp => ?_, fun post hp => ?_⟩
  · omega
  · refine nm_r (nI_pred d) ⟨i3, nm_r (e' := nI (48 * r + t)) (by rw [cd, hfc]) ⟨i3, i3, nm_r (e' := upd fd d 2) (by rw [cd, hfd]; rfl) ⟨i240, nm_r (e' := 15) (by rw [cp, hk]) (br_f (by decide) (br_f (by decide) (br_f (by decide) (br_f (by decide) (br_f (by decide) (br_f (by decide) (br_f (by decide) (br_f (by decide) (br_f (by decide) (br_f (by decide) (br_f (by decide) (br_f (by decide) (br_f (by decide) (br_f (by decide) (br_f (by decide) (br_t rfl (⟨i3, br_f (by rw [cd, pk_us]; decide) (bl_x_cl1 d3 hkp ⟨i3, ?_⟩)⟩)))))))))))))))))⟩⟩⟩
    rw [cd]
    exact ⟨i3, br_f nz ⟨i3, hp⟩⟩
  · exact nm_r (nI_pred h) ⟨j3, nm_r (e' := nI (bl_yb r + t)) (by rw [ch, hgt]) ⟨j240, nm_r (e' := 15) (by rw [cq, kq, hk]) ⟨j240, nm_r (e' := vX (48 * r + t)) (by rw [cq, nq]) ⟨j3, nm_r (e' := 2) (by rw [ch, hph]) ⟨j3, j3, nm_r (e' := upd ph h 3) (by rw [ch, hph]; rfl) (br_f (by decide) (br_f (by decide) (br_t (by decide) (br_f (by decide) (br_t rfl (br_t rfl (br_t rfl (br_t rfl (br_t rfl (br_f (by decide) (nm_r (nI_pred h) (bl_y_gb1 h3 hbp ⟨j3, nm_r (e' := fb d) (by rw [ch, hob]) (br_f (by decide) (br_f (by decide) (br_f (by decide) (br_t (by decide) (br_f (by decide) (br_t rfl (br_f (by decide) (br_t rfl ⟨j3, nm_r (e' := ok h) (by rw [ch]) ⟨j3, nm_r (e' := ov h) (by rw [ch]) ⟨j3, nm_r (e' := gk h) (by rw [ch]) ⟨j3, nm_r (e' := gv h) (by rw [ch]) hp⟩⟩⟩⟩))))))))⟩))))))))))))⟩⟩⟩⟩⟩
theorem bl_G_set (C : bl_Cf L dl kX vX df pr sp kY nY en ln) (hcl : cl ≤ st) (hst : st ≤ 300) (So : bl_So sp ss so po sc) (Co : bl_Co kX vX L cc cs cy cb sc cl) (P : bl_Po cl pl pk pv) (V : bl_Vo cl sc sv pk pv) (hd : d + 1 ≤ st) (hw : 3001 * sc + (3009 + s) ≤ 3010 * st) (S : bl_St kX vX L sc cl (bl_x fc fs fb fd fv fe kp kv) (bl_y gt ph ge gk gv bp ok ov ob) d h (fb d) s) (hg : bl_vg cl xg yk yv) (hr : r < 5) (ht : t < L r) (hfc : fc d = nI (48 * r + t)) (hgt : gt h = nI (bl_yb r + t)) (hge : fs d = ge h) (hfs : bl_sc sc (fs d)) (hob : fb d = ob h) (hk : kX (48 * r + t) = 2) (hfd : fd d = 0) (hph : ph h = 0) (hkp : kp d = -1) (hbp : bp h = -1) (hxb : xb = fb d) : ∃ u' v' q, q < 3010 * (300 - st) + (3009 + s) ∧ bl_RR L q u' v' ∧ (∀ post : SX → Prop, post u' → wpX_resumeFrame post (dl, lr, lc, (nI st), (nI (d + 1)), (nI cl), (nI sc), 1, xa, xs, xb, xg, 0, kX, vX, df, pr, sp, pl, th, fc, fs, fb, fd, fv, fe, kp, kv, cc, cs, ss, sv, so)) ∧ (∀ post : SY → Prop, post v' → wpY_give post ((nI sc), (nI cl), (nI (h + 1)), xb, (nI st), 0, ya, ys, yk, yv, yc, yt, rk, rv, kY, nY, en, ln, pr, sp, pk, pv, th, ss, po, so, cy, cb, cs, gt, ph, ge, gk, gv, bp, ok, ov, ob)) := by
  have K := C.1
  have p240 := bl_pX K hr ht
  have q240 := bl_pY K hr ht
  have kq := (bl_kY K hr ht).1
  have nq := (bl_kY K hr ht).2
  have tk := K.2.2 _ p240
  have R := C.2.1 r hr (by omega)
  have l48 := K.1 r hr
  have i240 : vp_in (nI (48 * r + t)) 240 := vp_in_nI p240 (by decide)
  have j240 : vp_in (nI (bl_yb r + t)) 240 := vp_in_nI q240 (by decide)
  have cp : (nI (48 * r + t)).toNatClampNeg = 48 * r + t := nI_clamp (by omega)
  have cq : (nI (bl_yb r + t)).toNatClampNeg = bl_yb r + t := nI_clamp (by omega)
  have hh := bl_St_le _ _ _ _ S
  have d3 : d < 300 := by omega
  have h3 : h < 320 := by omega
  have cd : (nI d).toNatClampNeg = d := nI_clamp (by omega)
  have ch : (nI h).toNatClampNeg = h := nI_clamp (by omega)
  have i3 : vp_in (nI d) 300 := vp_in_nI d3 (by decide)
  have j3 : vp_in (nI h) 320 := vp_in_nI h3 (by decide)
  have cl3 : cl < 1000 := by omega
  obtain ⟨b, hb, eb⟩ := bl_St_b K _ _ _ _ S
  rw [eb] at hxb
  subst hxb
  obtain ⟨j, hj, ej⟩ := bl_tk8 tk (by rw [hk]; decide)
  have hsc : sc ≤ 300 := by omega
  have S1 : bl_St kX vX L sc cl (bl_x fc fs fb (upd fd d 1) fv fe kp kv) (bl_y gt (upd ph h 1) ge gk gv bp ok ov ob) d h (nI b) s := by
    rw [← eb]; exact bl_St_cg (Nat.le_refl _) (Nat.le_refl _) d h _ s (fun i hi => by simp only [bl_x, upd, vp_updL, if_neg (show ¬ i = d by omega)]) (fun i hi => by simp only [bl_y, upd, if_neg (show ¬ i = h by omega)]) S
  have cl1 : ∀ (pl : Nat → Int64) (sv : Nat → Int64) (post : SX → Prop), post (dl, lr, lc, (nI st), (nI d), (nI cl), (nI sc), 1, xa, xs, (nI b), xg, 0, kX, vX, df, pr, sp, pl, th, fc, fs, fb, (upd fd d 1), fv, fe, kp, kv, cc, cs, ss, sv, so) → wpX_closeFrame post (dl, lr, lc, (nI st), (nI (d + 1)), (nI cl), (nI sc), 1, xa, xs, (nI b), xg, 0, kX, vX, df, pr, sp, pl, th, fc, fs, fb, (upd fd d 1), fv, fe, kp, kv, cc, cs, ss, sv, so) := by
    intro pl sv post hp
    refine bl_x_cl1 d3 hkp ?_
    rw [eb]; exact hp
  rcases bl_look (dl := dl) (lr := lr) (lc := lc) (xst := nI st) (xd := nI (d + 1)) (xcl := nI cl) (xsc := nI sc) (xm := 1) (xa := xa) (xs := xs) (xb := nI b) (xg := xg) (xe := 0) (kX := kX) (vX := vX) (df := df) (pr := pr) (sp := sp) (pl := pl) (th := th) (fc := fc) (fs := fs) (fb := fb) (fd := upd fd d 1) (fv := fv) (fe := fe) (kp := kp) (kv := kv) (cc := cc) (cs := cs) (ss := ss) (sv := sv) (so := so) (yen := nI sc) (ycl := nI cl) (yw := nI h) (ym := 0) (ya := ya) (ys := ys) (yk := yk) (yv := yv) (yc := yc) (yt := yt) (rk := rk) (rv := rv) (kY := kY) (nY := nY) (en := en) (ln := ln) (pk := pk) (pv := pv) (po := po) (cy := cy) (cb := cb) (gt := gt) (ph := upd ph h 1) (ge := ge) (gk := gk) (gv := gv) (bp := bp) (ok := ok) (ov := ov) (ob := ob) (e := fs d) (j := j) So hsc hj hfs with ⟨m, hm, hX, hY⟩ | ⟨hX, hY⟩
  · refine ⟨(dl, lr, lc, (nI st), (nI d), (nI cl), (nI sc), 1, xa, xs, (nI b), xg, 0, kX, vX, df, pr, sp, pl, th, fc, fs, fb, (upd fd d 1), fv, fe, kp, kv, cc, cs, ss, (vp_updL sv m xg), so), ((nI sc), (nI cl), (nI h), (nI b), (nI st), 0, ya, ys, yk, yv, yc, yt, rk, rv, kY, nY, en, ln, pr, sp, (upd pk (32 + m) yk), (upd pv (32 + m) yv), th, ss, po, so, cy, cb, cs, gt, (upd ph h 1), ge, gk, gv, bp, ok, ov, ob), _, ?_, bl_mkG (s := s) C (by omega) hcl hst (by omega) So Co (bl_Po_sc P m yk yv) (bl_Vo_set V m (fun i h1 _ => h1) (bl_vg_r hg)) S1 hg rfl, fun post hp => ?_, fun post hp => ?_⟩
    · omega
    · refine nm_r (nI_pred d) ⟨i3, nm_r (e' := nI (48 * r + t)) (by rw [cd, hfc]) ⟨i3, i3, nm_r (e' := upd fd d 1) (by rw [cd, hfd]; rfl) ⟨i240, nm_r (e' := 2) (by rw [cp, hk]) (br_f (by decide) (br_f (by decide) (br_t rfl (⟨i240, ⟨i3, ?_⟩⟩))))⟩⟩⟩
      rw [cd, cp, ej]
      exact hX _ (br_f (bl_neg1 (by omega)) ⟨vp_in_nI (by omega) (by decide), nm_r (e' := vp_updL sv m xg) (by rw [nI_clamp (by omega)]) (cl1 _ _ _ hp)⟩)
    · refine nm_r (nI_pred h) ⟨j3, nm_r (e' := nI (bl_yb r + t)) (by rw [ch, hgt]) ⟨j240, nm_r (e' := 2) (by rw [cq, kq, hk]) ⟨j240, nm_r (e' := vX (48 * r + t)) (by rw [cq, nq]) ⟨j3, nm_r (e' := 0) (by rw [ch, hph]) ⟨j3, j3, nm_r (e' := upd ph h 1) (by rw [ch, hph]; rfl) (br_f (by decide) (br_t (by decide) (br_t rfl (br_f (by decide) (br_t rfl (br_f (by decide) (br_f (by decide) (br_f (by decide) (br_f (by decide) (br_f (by decide) (br_f (by decide) (br_f (by decide) (br_f (by decide) (br_f (by decide) (br_f (by decide) (nm_r (nI_pred h) (bl_y_gb1 h3 hbp ⟨j3, nm_r (e' := nI b) (by rw [ch, ← hob, eb]) (br_t rfl (⟨j3, ?_⟩))⟩)))))))))))))))))⟩⟩⟩⟩⟩
      rw [ch, ej, ← hge]
      exact hY _ ⟨vp_in_nI (by omega) (by decide), nm_r (e' := upd pk (32 + m) yk) (by rw [nI_clamp (by omega)]) ⟨vp_in_nI (by omega) (by decide), nm_r (e' := upd pv (32 + m) yv) (by rw [nI_clamp (by omega)]) hp⟩⟩
  · obtain ⟨p, hp0, ep⟩ := bl_pp (th := th) hj hb
    refine ⟨(dl, lr, lc, (nI st), (nI d), (nI cl), (nI sc), 1, xa, xs, (nI b), xg, 0, kX, vX, df, pr, sp, (vp_updL pl p xg), th, fc, fs, fb, (upd fd d 1), fv, fe, kp, kv, cc, cs, ss, sv, so), ((nI sc), (nI cl), (nI h), (nI b), (nI st), 0, ya, ys, yk, yv, yc, yt, rk, rv, kY, nY, en, ln, pr, sp, (upd pk p yk), (upd pv p yv), th, ss, po, so, cy, cb, cs, gt, (upd ph h 1), ge, gk, gv, bp, ok, ov, ob), _, ?_, bl_mkG (s := s) C (by omega) hcl hst (by omega) So Co (bl_Po_set P p (bl_vg_r hg)) (bl_Vo_pl V hp0 yk yv) S1 hg rfl, fun post hp => ?_, fun post hp => ?_⟩
    · omega
    · refine nm_r (nI_pred d) ⟨i3, nm_r (e' := nI (48 * r + t)) (by rw [cd, hfc]) ⟨i3, i3, nm_r (e' := upd fd d 1) (by rw [cd, hfd]; rfl) ⟨i240, nm_r (e' := 2) (by rw [cp, hk]) (br_f (by decide) (br_f (by decide) (br_t rfl (⟨i240, ⟨i3, ?_⟩⟩))))⟩⟩⟩
      rw [cd, cp, ej]
      refine hX _ (br_t rfl (bl_x_pp hj hb ?_))
      rw [ep]
      exact ⟨vp_in_nI hp0 (by decide), nm_r (e' := vp_updL pl p xg) (by rw [nI_clamp (by omega)]) (cl1 _ _ _ hp)⟩
    · refine nm_r (nI_pred h) ⟨j3, nm_r (e' := nI (bl_yb r + t)) (by rw [ch, hgt]) ⟨j240, nm_r (e' := 2) (by rw [cq, kq, hk]) ⟨j240, nm_r (e' := vX (48 * r + t)) (by rw [cq, nq]) ⟨j3, nm_r (e' := 0) (by rw [ch, hph]) ⟨j3, j3, nm_r (e' := upd ph h 1) (by rw [ch, hph]; rfl) (br_f (by decide) (br_t (by decide) (br_t rfl (br_f (by decide) (br_t rfl (br_f (by decide) (br_f (by decide) (br_f (by decide) (br_f (by decide) (br_f (by decide) (br_f (by decide) (br_f (by decide) (br_f (by decide) (br_f (by decide) (br_f (by decide) (nm_r (nI_pred h) (bl_y_gb1 h3 hbp ⟨j3, nm_r (e' := nI b) (by rw [ch, ← hob, eb]) (br_t rfl (⟨j3, ?_⟩))⟩)))))))))))))))))⟩⟩⟩⟩⟩
      rw [ch, ej, ← hge]
      refine hY _ (bl_y_pp hj hb ?_)
      rw [ep]
      exact ⟨vp_in_nI (by omega) (by decide), nm_r (e' := upd pk p yk) (by rw [nI_clamp (by omega)]) ⟨vp_in_nI (by omega) (by decide), nm_r (e' := upd pv p yv) (by rw [nI_clamp (by omega)]) hp⟩⟩
theorem bl_G_local (C : bl_Cf L dl kX vX df pr sp kY nY en ln) (hcl : cl ≤ st) (hst : st ≤ 300) (So : bl_So sp ss so po sc) (Co : bl_Co kX vX L cc cs cy cb sc cl) (P : bl_Po cl pl pk pv) (V : bl_Vo cl sc sv pk pv) (hd : d + 1 ≤ st) (hw : 3001 * sc + (3009 + s) ≤ 3010 * st) (S : bl_St kX vX L sc cl (bl_x fc fs fb fd fv fe kp kv) (bl_y gt ph ge gk gv bp ok ov ob) d h (fb d) s) (hg : bl_vg cl xg yk yv) (hr : r < 5) (ht : t < L r) (hfc : fc d = nI (48 * r + t)) (hgt : gt h = nI (bl_yb r + t)) (hge : fs d = ge h) (hfs : bl_sc sc (fs d)) (hob : fb d = ob h) (hk : kX (48 * r + t) = 17) (hfd : fd d = 0) (hph : ph h = 0) (hkp : kp d = -1) (hbp : bp h = -1) (hxb : xb = fb d) : ∃ u' v' q, q < 3010 * (300 - st) + (3009 + s) ∧ bl_RR L q u' v' ∧ (∀ post : SX → Prop, post u' → wpX_resumeFrame post (dl, lr, lc, (nI st), (nI (d + 1)), (nI cl), (nI sc), 1, xa, xs, xb, xg, 0, kX, vX, df, pr, sp, pl, th, fc, fs, fb, fd, fv, fe, kp, kv, cc, cs, ss, sv, so)) ∧ (∀ post : SY → Prop, post v' → wpY_give post ((nI sc), (nI cl), (nI (h + 1)), xb, (nI st), 0, ya, ys, yk, yv, yc, yt, rk, rv, kY, nY, en, ln, pr, sp, pk, pv, th, ss, po, so, cy, cb, cs, gt, ph, ge, gk, gv, bp, ok, ov, ob)) := by
  have K := C.1
  have p240 := bl_pX K hr ht
  have q240 := bl_pY K hr ht
  have kq := (bl_kY K hr ht).1
  have nq := (bl_kY K hr ht).2
  have tk := K.2.2 _ p240
  have R := C.2.1 r hr (by omega)
  have l48 := K.1 r hr
  have i240 : vp_in (nI (48 * r + t)) 240 := vp_in_nI p240 (by decide)
  have j240 : vp_in (nI (bl_yb r + t)) 240 := vp_in_nI q240 (by decide)
  have cp : (nI (48 * r + t)).toNatClampNeg = 48 * r + t := nI_clamp (by omega)
  have cq : (nI (bl_yb r + t)).toNatClampNeg = bl_yb r + t := nI_clamp (by omega)
  have hh := bl_St_le _ _ _ _ S
  have d3 : d < 300 := by omega
  have h3 : h < 320 := by omega
  have cd : (nI d).toNatClampNeg = d := nI_clamp (by omega)
  have ch : (nI h).toNatClampNeg = h := nI_clamp (by omega)
  have i3 : vp_in (nI d) 300 := vp_in_nI d3 (by decide)
  have j3 : vp_in (nI h) 320 := vp_in_nI h3 (by decide)
  have cl3 : cl < 1000 := by omega
  obtain ⟨b, hb, eb⟩ := bl_St_b K _ _ _ _ S
  rw [eb] at hxb
  subst hxb
  obtain ⟨j, hj, ej⟩ := bl_tk8 tk (by rw [hk]; decide)
  have S1 : bl_St kX vX L sc cl (bl_x fc fs fb (upd fd d 1) fv fe kp kv) (bl_y gt (upd ph h 1) ge gk gv bp ok ov ob) d h (nI b) s := by
    rw [← eb]; exact bl_St_cg (Nat.le_refl _) (Nat.le_refl _) d h _ s (fun i hi => by simp only [bl_x, upd, vp_updL, if_neg (show ¬ i = d by omega)]) (fun i hi => by simp only [bl_y, upd, if_neg (show ¬ i = h by omega)]) S
  have q32 : vp_in (nI (8 * (b + 1) + j)) 32 := vp_in_nI (by omega) (by decide)
  have q34 : vp_in (nI (8 * (b + 1) + j)) 340 := vp_in_nI (by omega) (by decide)
  have cq2 : (nI (8 * (b + 1) + j)).toNatClampNeg = 8 * (b + 1) + j := nI_clamp (by omega)
  refine ⟨(dl, lr, lc, (nI st), (nI d), (nI cl), (nI sc), 1, xa, xs, (nI b), xg, 0, kX, vX, df, pr, sp, (vp_updL pl (8 * (b + 1) + j) xg), (upd th (8 * (b + 1) + j) 1), fc, fs, fb, (upd fd d 1), fv, fe, kp, kv, cc, cs, ss, sv, so), ((nI sc), (nI cl), (nI h), (nI b), (nI st), 0, ya, ys, yk, yv, yc, yt, rk, rv, kY, nY, en, ln, pr, sp, (upd pk (8 * (b + 1) + j) yk), (upd pv (8 * (b + 1) + j) yv), (upd th (8 * (b + 1) + j) 1), ss, po, so, cy, cb, cs, gt, (upd ph h 1), ge, gk, gv, bp, ok, ov, ob), _, ?_, bl_mkG (s := s) C (by omega) hcl hst (by omega) So Co (bl_Po_set P (8 * (b + 1) + j) (bl_vg_r hg)) (bl_Vo_pl V (by omega) yk yv) S1 hg rfl, fun post hp => ?_, fun post hp => ?_⟩
  · omega
  · refine nm_r (nI_pred d) ⟨i3, nm_r (e' := nI (48 * r + t)) (by rw [cd, hfc]) ⟨i3, i3, nm_r (e' := upd fd d 1) (by rw [cd, hfd]; rfl) ⟨i240, nm_r (e' := 17) (by rw [cp, hk]) (br_f (by decide) (br_f (by decide) (br_f (by decide) (br_f (by decide) (br_f (by decide) (br_f (by decide) (br_f (by decide) (br_f (by decide) (br_f (by decide) (br_f (by decide) (br_f (by decide) (br_f (by decide) (br_f (by decide) (br_f (by decide) (br_f (by decide) (br_f (by decide) (br_f (by decide) (br_t rfl (⟨i240, ?_⟩)))))))))))))))))))⟩⟩⟩
    rw [cp, ej]
    show vp_in ((nI b + 1) * 8 + nI j) 32 ∧ _
    rw [bl_lpX]
    refine ⟨q32, nm_r (e' := upd th (8 * (b + 1) + j) 1) (by rw [cq2, bl_nb1]) ⟨q32, nm_r (e' := vp_updL pl (8 * (b + 1) + j) xg) (by rw [cq2]) (bl_x_cl1 d3 hkp ?_)⟩⟩
    rw [eb]; exact hp
  · refine nm_r (nI_pred h) ⟨j3, nm_r (e' := nI (bl_yb r + t)) (by rw [ch, hgt]) ⟨j240, nm_r (e' := 17) (by rw [cq, kq, hk]) ⟨j240, nm_r (e' := vX (48 * r + t)) (by rw [cq, nq]) ⟨j3, nm_r (e' := 0) (by rw [ch, hph]) ⟨j3, j3, nm_r (e' := upd ph h 1) (by rw [ch, hph]; rfl) (br_f (by decide) (br_f (by decide) (br_t (by decide) (br_t rfl (br_f (by decide) (br_t rfl (br_f (by decide) (br_f (by decide) (br_f (by decide) (br_f (by decide) (br_f (by decide) (br_f (by decide) (br_f (by decide) (br_f (by decide) (br_f (by decide) (br_f (by decide) (nm_r (nI_pred h) (bl_y_gb1 h3 hbp ⟨j3, nm_r (e' := nI b) (by rw [ch, ← hob, eb]) (br_f (by decide) (br_t rfl (?_)))⟩))))))))))))))))))⟩⟩⟩⟩⟩
    rw [ej, bl_lpY]
    exact ⟨q32, nm_r (e' := upd th (8 * (b + 1) + j) 1) (by rw [cq2, bl_nb1]) ⟨q34, nm_r (e' := upd pk (8 * (b + 1) + j) yk) (by rw [cq2]) ⟨q34, nm_r (e' := upd pv (8 * (b + 1) + j) yv) (by rw [cq2]) hp⟩⟩⟩
theorem bl_G_inert7 (C : bl_Cf L dl kX vX df pr sp kY nY en ln) (hcl : cl ≤ st) (hst : st ≤ 300) (So : bl_So sp ss so po sc) (Co : bl_Co kX vX L cc cs cy cb sc cl) (P : bl_Po cl pl pk pv) (V : bl_Vo cl sc sv pk pv) (hd : d + 1 ≤ st) (hw : 3001 * sc + (6 + s) ≤ 3010 * st) (S : bl_St kX vX L sc cl (bl_x fc fs fb fd fv fe kp kv) (bl_y gt ph ge gk gv bp ok ov ob) d h (fb d) s) (hg : bl_vg cl xg yk yv) (hr : r < 5) (ht : t < L r) (hfc : fc d = nI (48 * r + t)) (hk : kX (48 * r + t) = 7) (hfd : fd d = 1) (hkp : kp d = -1) (hxb : xb = fb d) : ∃ u' q, q < 3010 * (300 - st) + (6 + s) ∧ bl_RR L q u' ((nI sc), (nI cl), (nI h), xb, (nI st), 0, ya, ys, yk, yv, yc, yt, rk, rv, kY, nY, en, ln, pr, sp, pk, pv, th, ss, po, so, cy, cb, cs, gt, ph, ge, gk, gv, bp, ok, ov, ob) ∧ (∀ post : SX → Prop, post u' → wpX_resumeFrame post (dl, lr, lc, (nI st), (nI (d + 1)), (nI cl), (nI sc), 1, xa, xs, xb, xg, 0, kX, vX, df, pr, sp, pl, th, fc, fs, fb, fd, fv, fe, kp, kv, cc, cs, ss, sv, so)) := by
  have K := C.1
  have p240 := bl_pX K hr ht
  have q240 := bl_pY K hr ht
  have kq := (bl_kY K hr ht).1
  have nq := (bl_kY K hr ht).2
  have tk := K.2.2 _ p240
  have R := C.2.1 r hr (by omega)
  have l48 := K.1 r hr
  have i240 : vp_in (nI (48 * r + t)) 240 := vp_in_nI p240 (by decide)
  have j240 : vp_in (nI (bl_yb r + t)) 240 := vp_in_nI q240 (by decide)
  have cp : (nI (48 * r + t)).toNatClampNeg = 48 * r + t := nI_clamp (by omega)
  have cq : (nI (bl_yb r + t)).toNatClampNeg = bl_yb r + t := nI_clamp (by omega)
  have hh := bl_St_le _ _ _ _ S
  have d3 : d < 300 := by omega
  have h3 : h < 320 := by omega
  have cd : (nI d).toNatClampNeg = d := nI_clamp (by omega)
  have ch : (nI h).toNatClampNeg = h := nI_clamp (by omega)
  have i3 : vp_in (nI d) 300 := vp_in_nI d3 (by decide)
  have j3 : vp_in (nI h) 320 := vp_in_nI h3 (by decide)
  have cl3 : cl < 1000 := by omega
  subst hxb
  refine ⟨(dl, lr, lc, (nI st), (nI d), (nI cl), (nI sc), 1, xa, xs, (fb d), xg, 0, kX, vX, df, pr, sp, pl, th, fc, fs, fb, (upd fd d 2), fv, fe, kp, kv, cc, cs, ss, sv, so), _, ?_, bl_mkG (s := s) C (by omega) hcl hst (by omega) So Co P V (bl_St_cg (Nat.le_refl _) (Nat.le_refl _) d h _ s (fun i hi => by simp only [bl_x, upd, vp_updL, if_neg (show ¬ i = d by omega)]) (fun _ _ => rfl) S) hg rfl, fun post hp => ?_⟩
  · omega
  · exact nm_r (nI_pred d) ⟨i3, nm_r (e' := nI (48 * r + t)) (by rw [cd, hfc]) ⟨i3, i3, nm_r (e' := upd fd d 2) (by rw [cd, hfd]; rfl) ⟨i240, nm_r (e' := 7) (by rw [cp, hk]) (br_f (by decide) (br_f (by decide) (br_f (by decide) (br_f (by decide) (br_f (by decide) (br_f (by decide) (br_f (by decide) (br_t rfl (⟨i3, br_f (by rw [cd, pk_us]; decide) (bl_x_cl1 d3 hkp hp)⟩)))))))))⟩⟩⟩
theorem bl_G_inert8 (C : bl_Cf L dl kX vX df pr sp kY nY en ln) (hcl : cl ≤ st) (hst : st ≤ 300) (So : bl_So sp ss so po sc) (Co : bl_Co kX vX L cc cs cy cb sc cl) (P : bl_Po cl pl pk pv) (V : bl_Vo cl sc sv pk pv) (hd : d + 1 ≤ st) (hw : 3001 * sc + (6 + s) ≤ 3010 * st) (S : bl_St kX vX L sc cl (bl_x fc fs fb fd fv fe kp kv) (bl_y gt ph ge gk gv bp ok ov ob) d h (fb d) s) (hg : bl_vg cl xg yk yv) (hr : r < 5) (ht : t < L r) (hfc : fc d = nI (48 * r + t)) (hk : kX (48 * r + t) = 8) (hfd : fd d = 1) (hkp : kp d = -1) (hxb : xb = fb d) : ∃ u' q, q < 3010 * (300 - st) + (6 + s) ∧ bl_RR L q u' ((nI sc), (nI cl), (nI h), xb, (nI st), 0, ya, ys, yk, yv, yc, yt, rk, rv, kY, nY, en, ln, pr, sp, pk, pv, th, ss, po, so, cy, cb, cs, gt, ph, ge, gk, gv, bp, ok, ov, ob) ∧ (∀ post : SX → Prop, post u' → wpX_resumeFrame post (dl, lr, lc, (nI st), (nI (d + 1)), (nI cl), (nI sc), 1, xa, xs, xb, xg, 0, kX, vX, df, pr, sp, pl, th, fc, fs, fb, fd, fv, fe, kp, kv, cc, cs, ss, sv, so)) := by
  have K := C.1
  have p240 := bl_pX K hr ht
  have q240 := bl_pY K hr ht
  have kq := (bl_kY K hr ht).1
  have nq := (bl_kY K hr ht).2
  have tk := K.2.2 _ p240
  have R := C.2.1 r hr (by omega)
  have l48 := K.1 r hr
  have i240 : vp_in (nI (48 * r + t)) 240 := vp_in_nI p240 (by decide)
  have j240 : vp_in (nI (bl_yb r + t)) 240 := vp_in_nI q240 (by decide)
  have cp : (nI (48 * r + t)).toNatClampNeg = 48 * r + t := nI_clamp (by omega)
  have cq : (nI (bl_yb r + t)).toNatClampNeg = bl_yb r + t := nI_clamp (by omega)
  have hh := bl_St_le _ _ _ _ S
  have d3 : d < 300 := by omega
  have h3 : h < 320 := by omega
  have cd : (nI d).toNatClampNeg = d := nI_clamp (by omega)
  have ch : (nI h).toNatClampNeg = h := nI_clamp (by omega)
  have i3 : vp_in (nI d) 300 := vp_in_nI d3 (by decide)
  have j3 : vp_in (nI h) 320 := vp_in_nI h3 (by decide)
  have cl3 : cl < 1000 := by omega
  subst hxb
  refine ⟨(dl, lr, lc, (nI st), (nI d), (nI cl), (nI sc), 1, xa, xs, (fb d), xg, 0, kX, vX, df, pr, sp, pl, th, fc, fs, fb, (upd fd d 2), fv, fe, kp, kv, cc, cs, ss, sv, so), _, ?_, bl_mkG (s := s) C (by omega) hcl hst (by omega) So Co P V (bl_St_cg (Nat.le_refl _) (Nat.le_refl _) d h _ s (fun i hi => by simp only [bl_x, upd, vp_updL, if_neg (show ¬ i = d by omega)]) (fun _ _ => rfl) S) hg rfl, fun post hp => ?_⟩
  · omega
  · exact nm_r (nI_pred d) ⟨i3, nm_r (e' := nI (48 * r + t)) (by rw [cd, hfc]) ⟨i3, i3, nm_r (e' := upd fd d 2) (by rw [cd, hfd]; rfl) ⟨i240, nm_r (e' := 8) (by rw [cp, hk]) (br_f (by decide) (br_f (by decide) (br_f (by decide) (br_f (by decide) (br_f (by decide) (br_f (by decide) (br_f (by decide) (br_f (by decide) (br_t rfl (⟨i3, br_f (by rw [cd, pk_us]; decide) (bl_x_cl1 d3 hkp hp)⟩))))))))))⟩⟩⟩
theorem bl_G_inert14 (C : bl_Cf L dl kX vX df pr sp kY nY en ln) (hcl : cl ≤ st) (hst : st ≤ 300) (So : bl_So sp ss so po sc) (Co : bl_Co kX vX L cc cs cy cb sc cl) (P : bl_Po cl pl pk pv) (V : bl_Vo cl sc sv pk pv) (hd : d + 1 ≤ st) (hw : 3001 * sc + (6 + s) ≤ 3010 * st) (S : bl_St kX vX L sc cl (bl_x fc fs fb fd fv fe kp kv) (bl_y gt ph ge gk gv bp ok ov ob) d h (fb d) s) (hg : bl_vg cl xg yk yv) (hr : r < 5) (ht : t < L r) (hfc : fc d = nI (48 * r + t)) (hk : kX (48 * r + t) = 14) (hfd : fd d = 1) (hkp : kp d = -1) (hxb : xb = fb d) : ∃ u' q, q < 3010 * (300 - st) + (6 + s) ∧ bl_RR L q u' ((nI sc), (nI cl), (nI h), xb, (nI st), 0, ya, ys, yk, yv, yc, yt, rk, rv, kY, nY, en, ln, pr, sp, pk, pv, th, ss, po, so, cy, cb, cs, gt, ph, ge, gk, gv, bp, ok, ov, ob) ∧ (∀ post : SX → Prop, post u' → wpX_resumeFrame post (dl, lr, lc, (nI st), (nI (d + 1)), (nI cl), (nI sc), 1, xa, xs, xb, xg, 0, kX, vX, df, pr, sp, pl, th, fc, fs, fb, fd, fv, fe, kp, kv, cc, cs, ss, sv, so)) := by
  have K := C.1
  have p240 := bl_pX K hr ht
  have q240 := bl_pY K hr ht
  have kq := (bl_kY K hr ht).1
  have nq := (bl_kY K hr ht).2
  have tk := K.2.2 _ p240
  have R := C.2.1 r hr (by omega)
  have l48 := K.1 r hr
  have i240 : vp_in (nI (48 * r + t)) 240 := vp_in_nI p240 (by decide)
  have j240 : vp_in (nI (bl_yb r + t)) 240 := vp_in_nI q240 (by decide)
  have cp : (nI (48 * r + t)).toNatClampNeg = 48 * r + t := nI_clamp (by omega)
  have cq : (nI (bl_yb r + t)).toNatClampNeg = bl_yb r + t := nI_clamp (by omega)
  have hh := bl_St_le _ _ _ _ S
  have d3 : d < 300 := by omega
  have h3 : h < 320 := by omega
  have cd : (nI d).toNatClampNeg = d := nI_clamp (by omega)
  have ch : (nI h).toNatClampNeg = h := nI_clamp (by omega)
  have i3 : vp_in (nI d) 300 := vp_in_nI d3 (by decide)
  have j3 : vp_in (nI h) 320 := vp_in_nI h3 (by decide)
  have cl3 : cl < 1000 := by omega
  subst hxb
  refine ⟨(dl, lr, lc, (nI st), (nI d), (nI cl), (nI sc), 1, xa, xs, (fb d), xg, 0, kX, vX, df, pr, sp, pl, th, fc, fs, fb, (upd fd d 2), fv, fe, kp, kv, cc, cs, ss, sv, so), _, ?_, bl_mkG (s := s) C (by omega) hcl hst (by omega) So Co P V (bl_St_cg (Nat.le_refl _) (Nat.le_refl _) d h _ s (fun i hi => by simp only [bl_x, upd, vp_updL, if_neg (show ¬ i = d by omega)]) (fun _ _ => rfl) S) hg rfl, fun post hp => ?_⟩
  · omega
  · exact nm_r (nI_pred d) ⟨i3, nm_r (e' := nI (48 * r + t)) (by rw [cd, hfc]) ⟨i3, i3, nm_r (e' := upd fd d 2) (by rw [cd, hfd]; rfl) ⟨i240, nm_r (e' := 14) (by rw [cp, hk]) (br_f (by decide) (br_f (by decide) (br_f (by decide) (br_f (by decide) (br_f (by decide) (br_f (by decide) (br_f (by decide) (br_f (by decide) (br_f (by decide) (br_f (by decide) (br_f (by decide) (br_f (by decide) (br_f (by decide) (br_f (by decide) (br_t rfl ((bl_x_cl1 d3 hkp hp)))))))))))))))))⟩⟩⟩
end
