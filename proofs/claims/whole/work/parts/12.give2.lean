/-! turns: a value is given to the frame on top (2) -/
section
variable {dl lc xst xd xcl xsc xm xa xs xb xe yen ycl yw ym ya ys yk yv yc yt rk rv : Int32}
variable {lr xg : Int64}
variable {kX vX df pr sp th fc fs fb fd fe kp cc cs ss so kY nY en ln pk pv po cy cb gt ph ge gk gv bp ok ov ob : Nat → Int32}
variable {pl fv kv sv : Nat → Int64}
variable {L : Nat → Nat} {q d h sc cl st s r t m m2 p j b w e : Nat}
theorem bl_St_fc {kX vX : Nat → Int32} {L : Nat → Nat} {sc cl : Nat} {x : Nat → bl_XF} {y : Nat → bl_YF} (h48 : ∀ r, r < 5 → L r ≤ 48) : ∀ (d h : Nat) (b : Int32) (s : Nat), bl_St kX vX L sc cl x y d h b s → ∀ i, i < d → ∃ p, p < 240 ∧ (x i).1 = nI p := by
  intro d
  induction d with
  | zero => intro h b s _ i hi; omega
  | succ d ih =>
    intro h b s H i hi
    rcases H with ⟨s', e, hi', H⟩ | ⟨h', s', w, e1, e2, hl, H⟩
    · by_cases c : i = d
      · subst c
        generalize x i = f at hi'
        obtain ⟨fc, fs, fb, fd, fv, fe, kp, kv⟩ := f
        obtain ⟨r, t, a1, a2, a3, _⟩ := hi'
        have := h48 r a1
        exact ⟨48 * r + t, by omega, a3⟩
      · exact ih _ _ _ H i (by omega)
    · by_cases c : i = d
      · subst c
        generalize x i = f at hl
        generalize y h' = g at hl
        obtain ⟨fc, fs, fb, fd, fv, fe, kp, kv⟩ := f
        obtain ⟨gt, ph, ge, gk, gv, bp, ok, ov, ob⟩ := g
        obtain ⟨r, t, e, a1, a2, a3, _⟩ := hl
        have := h48 r a1
        exact ⟨48 * r + t, by omega, a3⟩
      · exact ih _ _ _ H i (by omega)
theorem bl_St_gt {kX vX : Nat → Int32} {L : Nat → Nat} {sc cl : Nat} {x : Nat → bl_XF} {y : Nat → bl_YF} (h48 : ∀ r, r < 5 → L r ≤ 48) : ∀ (d h : Nat) (b : Int32) (s : Nat), bl_St kX vX L sc cl x y d h b s → ∀ i, i < h → ∃ p, p < 240 ∧ (y i).1 = nI p := by
  intro d
  induction d with
  | zero => intro h b s H i hi; have := H.1; omega
  | succ d ih =>
    intro h b s H i hi
    rcases H with ⟨s', e, hi', H⟩ | ⟨h', s', w, e1, e2, hl, H⟩
    · exact ih _ _ _ H i hi
    · by_cases c : i = h'
      · subst c
        generalize x d = f at hl
        generalize y i = g at hl
        obtain ⟨fc, fs, fb, fd, fv, fe, kp, kv⟩ := f
        obtain ⟨gt, ph, ge, gk, gv, bp, ok, ov, ob⟩ := g
        obtain ⟨r, t, e, a1, a2, a3, a4, _⟩ := hl
        have := h48 r a1
        exact ⟨bl_yb r + t, bl_yb_lt a1 (by omega), a4⟩
      · exact ih _ _ _ H i (by omega)
theorem bl_G_seq (C : bl_Cf L dl kX vX df pr sp kY nY en ln) (hcl : cl ≤ st) (hst : st ≤ 300) (So : bl_So sp ss so po sc) (Co : bl_Co kX vX L cc cs cy cb sc cl) (P : bl_Po cl pl pk pv) (V : bl_Vo cl sc sv pk pv) (hd : d + 1 ≤ st) (hw : 3001 * sc + (3009 + s) ≤ 3010 * st) (S : bl_St kX vX L sc cl (bl_x fc fs fb fd fv fe kp kv) (bl_y gt ph ge gk gv bp ok ov ob) d h (fb d) s) (hg : bl_vg cl xg yk yv) (hr : r < 5) (ht : t < L r) (hfc : fc d = nI (48 * r + t)) (hgt : gt h = nI (bl_yb r + t)) (hge : fs d = ge h) (hfs : bl_sc sc (fs d)) (hob : fb d = ob h) (hk : kX (48 * r + t) = 7) (hfd : fd d = 0) (hph : ph h = 0) (hkp : kp d = -1) (hbp : bp h = -1) (hxb : xb = fb d) : ∃ u' v' q, q < 3010 * (300 - st) + (3009 + s) ∧ bl_RR L q u' v' ∧ (∀ post : SX → Prop, post u' → wpX_resumeFrame post (dl, lr, lc, (nI st), (nI (d + 1)), (nI cl), (nI sc), 1, xa, xs, xb, xg, 0, kX, vX, df, pr, sp, pl, th, fc, fs, fb, fd, fv, fe, kp, kv, cc, cs, ss, sv, so)) ∧ (∀ post : SY → Prop, post v' → wpY_give post ((nI sc), (nI cl), (nI (h + 1)), xb, (nI st), 0, ya, ys, yk, yv, yc, yt, rk, rv, kY, nY, en, ln, pr, sp, pk, pv, th, ss, po, so, cy, cb, cs, gt, ph, ge, gk, gv, bp, ok, ov, ob)) := by
  have K := C.1
  have p240 := bl_pX K hr ht
  have q240 := bl_pY K hr ht
  have kq := (bl_kY K hr ht).1
  have nq := (bl_kY K hr ht).2
  have tk := K.2.2 _ p240
  have R := C.2.1 r hr (by omega)
  have l48 := K.1 r hr
  have i240 : vp_in (nI (48 * r + t)) 240 := vp_in_nI p240 (by decide)
  have j240 : vp_in (nI (bl_yb r + t)) 240 := vp_in_nI q240 (by decide)
  have cp : (nI (48 * r + t)).toNatClampNeg = 48 * r + t := nI_clamp (by omega)
  have cq : (nI (bl_yb r + t)).toNatClampNeg = bl_yb r + t := nI_clamp (by omega)
  have hh := bl_St_le _ _ _ _ S
  have d3 : d < 300 := by omega
  have h3 : h < 320 := by omega
  have cd : (nI d).toNatClampNeg = d := nI_clamp (by omega)
  have ch : (nI h).toNatClampNeg = h := nI_clamp (by omega)
  have i3 : vp_in (nI d) 300 := vp_in_nI d3 (by decide)
  have j3 : vp_in (nI h) 320 := vp_in_nI h3 (by decide)
  have cl3 : cl < 1000 := by omega
  subst hxb
  have ka : 1 < bl_ar (kX (48 * r + t)) := by rw [hk]; decide
  have t1 := bl_p0 R ht (by omega)
  have y1 := bl_pY K hr t1
  obtain ⟨m, hm, E1, he⟩ := bl_p1 R ht ka
  refine ⟨(dl, lr, lc, (nI st), (nI (d + 1)), (nI cl), (nI sc), 0, (nI (48 * r + m)), (fs d), (fb d), xg, 0, kX, vX, df, pr, sp, pl, th, fc, fs, fb, (upd fd d 1), fv, fe, kp, kv, cc, cs, ss, sv, so), ((nI sc), (nI cl), (nI h), (fb d), (nI st), 1, (nI (bl_yb r + m)), (fs d), yk, yv, yc, yt, rk, rv, kY, nY, en, ln, pr, sp, pk, pv, th, ss, po, so, cy, cb, cs, gt, (upd ph h 1), ge, gk, gv, bp, ok, ov, ob), _, ?_, bl_mkE (s := 6 + s) C (by omega) hcl hst (by omega) So Co P V ?_ hfs hr hm rfl, fun post hp => ?_, fun post hp => ?_⟩
  · omega
  · exact Or.inl ⟨s, rfl, ⟨r, t, hr, ht, hfc, Or.inl hk, pk_us, hkp, rfl⟩, bl_St_cg (Nat.le_refl _) (Nat.le_refl _) d h _ s (fun i hi => by simp only [bl_x, upd, vp_updL, if_neg (show ¬ i = d by omega)]) (fun i hi => by simp only [bl_y, upd, if_neg (show ¬ i = h by omega)]) S⟩
  · exact nm_r (nI_pred d) ⟨i3, nm_r (e' := nI (48 * r + t)) (by rw [cd, hfc]) ⟨i3, i3, nm_r (e' := upd fd d 1) (by rw [cd, hfd]; rfl) ⟨i240, nm_r (e' := 7) (by rw [cp, hk]) (br_f (by decide) (br_f (by decide) (br_f (by decide) (br_f (by decide) (br_f (by decide) (br_f (by decide) (br_f (by decide) (br_t rfl (⟨i3, br_t (by rw [cd, pk_us]) (bl_x_sp2 K.2.2 hr (by omega) E1 d3 p240 hfc hp)⟩)))))))))⟩⟩⟩
  · refine nm_r (nI_pred h) ⟨j3, nm_r (e' := nI (bl_yb r + t)) (by rw [ch, hgt]) ⟨j240, nm_r (e' := 7) (by rw [cq, kq, hk]) ⟨j240, nm_r (e' := vX (48 * r + t)) (by rw [cq, nq]) ⟨j3, nm_r (e' := 0) (by rw [ch, hph]) ⟨j3, j3, nm_r (e' := upd ph h 1) (by rw [ch, hph]; rfl) (br_f (by decide) (br_t (by decide) (br_t rfl (br_f (by decide) (br_t rfl (br_f (by decide) (br_f (by decide) (br_t rfl (nm_r (nI_pred h) (bl_y_op1 y1 he ⟨j3, ?_⟩))))))))))⟩⟩⟩⟩⟩
    rw [ch, ← hge]; exact hp
theorem bl_G_if (C : bl_Cf L dl kX vX df pr sp kY nY en ln) (hcl : cl ≤ st) (hst : st ≤ 300) (So : bl_So sp ss so po sc) (Co : bl_Co kX vX L cc cs cy cb sc cl) (P : bl_Po cl pl pk pv) (V : bl_Vo cl sc sv pk pv) (hd : d + 1 ≤ st) (hw : 3001 * sc + (3009 + s) ≤ 3010 * st) (S : bl_St kX vX L sc cl (bl_x fc fs fb fd fv fe kp kv) (bl_y gt ph ge gk gv bp ok ov ob) d h (fb d) s) (hg : bl_vg cl xg yk yv) (hr : r < 5) (ht : t < L r) (hfc : fc d = nI (48 * r + t)) (hgt : gt h = nI (bl_yb r + t)) (hge : fs d = ge h) (hfs : bl_sc sc (fs d)) (hob : fb d = ob h) (hk : kX (48 * r + t) = 8) (hfd : fd d = 0) (hph : ph h = 0) (hkp : kp d = -1) (hbp : bp h = -1) (hxb : xb = fb d) : ∃ u' v' q, q < 3010 * (300 - st) + (3009 + s) ∧ bl_RR L q u' v' ∧ (∀ post : SX → Prop, post u' → wpX_resumeFrame post (dl, lr, lc, (nI st), (nI (d + 1)), (nI cl), (nI sc), 1, xa, xs, xb, xg, 0, kX, vX, df, pr, sp, pl, th, fc, fs, fb, fd, fv, fe, kp, kv, cc, cs, ss, sv, so)) ∧ (∀ post : SY → Prop, post v' → wpY_give post ((nI sc), (nI cl), (nI (h + 1)), xb, (nI st), 0, ya, ys, yk, yv, yc, yt, rk, rv, kY, nY, en, ln, pr, sp, pk, pv, th, ss, po, so, cy, cb, cs, gt, ph, ge, gk, gv, bp, ok, ov, ob)) := by
  have K := C.1
  have p240 := bl_pX K hr ht
  have q240 := bl_pY K hr ht
  have kq := (bl_kY K hr ht).1
  have nq := (bl_kY K hr ht).2
  have tk := K.2.2 _ p240
  have R := C.2.1 r hr (by omega)
  have l48 := K.1 r hr
  have i240 : vp_in (nI (48 * r + t)) 240 := vp_in_nI p240 (by decide)
  have j240 : vp_in (nI (bl_yb r + t)) 240 := vp_in_nI q240 (by decide)
  have cp : (nI (48 * r + t)).toNatClampNeg = 48 * r + t := nI_clamp (by omega)
  have cq : (nI (bl_yb r + t)).toNatClampNeg = bl_yb r + t := nI_clamp (by omega)
  have hh := bl_St_le _ _ _ _ S
  have d3 : d < 300 := by omega
  have h3 : h < 320 := by omega
  have cd : (nI d).toNatClampNeg = d := nI_clamp (by omega)
  have ch : (nI h).toNatClampNeg = h := nI_clamp (by omega)
  have i3 : vp_in (nI d) 300 := vp_in_nI d3 (by decide)
  have j3 : vp_in (nI h) 320 := vp_in_nI h3 (by decide)
  have cl3 : cl < 1000 := by omega
  subst hxb
  have ka : 2 < bl_ar (kX (48 * r + t)) := by rw [hk]; decide
  have t1 := bl_p0 R ht (by omega)
  have y1 := bl_pY K hr t1
  obtain ⟨m, m2, hm, hm2, E1, he, E2, he2⟩ := bl_p2 R ht ka
  have y2 := bl_pY K hr hm
  by_cases z : xg = 0
  · have zz := (bl_vg_0 cl3 hg).mp z
    refine ⟨(dl, lr, lc, (nI st), (nI (d + 1)), (nI cl), (nI sc), 0, (nI (48 * r + m2)), (fs d), (fb d), xg, 0, kX, vX, df, pr, sp, pl, th, fc, fs, fb, (upd fd d 1), fv, fe, kp, kv, cc, cs, ss, sv, so), ((nI sc), (nI cl), (nI h), (fb d), (nI st), 1, (nI (bl_yb r + m2)), (fs d), yk, yv, yc, yt, rk, rv, kY, nY, en, ln, pr, sp, pk, pv, th, ss, po, so, cy, cb, cs, gt, (upd ph h 1), ge, gk, gv, bp, ok, ov, ob), _, ?_, bl_mkE (s := 6 + s) C (by omega) hcl hst (by omega) So Co P V ?_ hfs hr hm2 rfl, fun post hp => ?_, fun post hp => ?_⟩
    · omega
    · exact Or.inl ⟨s, rfl, ⟨r, t, hr, ht, hfc, Or.inr (Or.inl hk), pk_us, hkp, rfl⟩, bl_St_cg (Nat.le_refl _) (Nat.le_refl _) d h _ s (fun i hi => by simp only [bl_x, upd, vp_updL, if_neg (show ¬ i = d by omega)]) (fun i hi => by simp only [bl_y, upd, if_neg (show ¬ i = h by omega)]) S⟩
    · exact nm_r (nI_pred d) ⟨i3, nm_r (e' := nI (48 * r + t)) (by rw [cd, hfc]) ⟨i3, i3, nm_r (e' := upd fd d 1) (by rw [cd, hfd]; rfl) ⟨i240, nm_r (e' := 8) (by rw [cp, hk]) (br_f (by decide) (br_f (by decide) (br_f (by decide) (br_f (by decide) (br_f (by decide) (br_f (by decide) (br_f (by decide) (br_f (by decide) (br_t rfl (⟨i3, br_t (by rw [cd, pk_us]) (br_t z (bl_x_sp3 K.2.2 hr (by omega) E1 (by omega) E2 d3 p240 hfc hp))⟩))))))))))⟩⟩⟩
    · refine nm_r (nI_pred h) ⟨j3, nm_r (e' := nI (bl_yb r + t)) (by rw [ch, hgt]) ⟨j240, nm_r (e' := 8) (by rw [cq, kq, hk]) ⟨j240, nm_r (e' := vX (48 * r + t)) (by rw [cq, nq]) ⟨j3, nm_r (e' := 0) (by rw [ch, hph]) ⟨j3, j3, nm_r (e' := upd ph h 1) (by rw [ch, hph]; rfl) (br_f (by decide) (br_t (by decide) (br_t rfl (br_f (by decide) (br_t rfl (br_f (by decide) (br_f (by decide) (br_f (by decide) (br_f (by decide) (br_t rfl (nm_r (nI_pred h) (br_t zz.1 (br_t zz.2 (bl_y_op2 y1 he y2 he2 ⟨j3, ?_⟩))))))))))))))⟩⟩⟩⟩⟩
      rw [ch, ← hge]; exact hp
  · have zz : ¬ (yk = 0 ∧ yv = 0) := fun y => z ((bl_vg_0 cl3 hg).mpr y)
    refine ⟨(dl, lr, lc, (nI st), (nI (d + 1)), (nI cl), (nI sc), 0, (nI (48 * r + m)), (fs d), (fb d), xg, 0, kX, vX, df, pr, sp, pl, th, fc, fs, fb, (upd fd d 1), fv, fe, kp, kv, cc, cs, ss, sv, so), ((nI sc), (nI cl), (nI h), (fb d), (nI st), 1, (nI (bl_yb r + m)), (fs d), yk, yv, yc, yt, rk, rv, kY, nY, en, ln, pr, sp, pk, pv, th, ss, po, so, cy, cb, cs, gt, (upd ph h 1), ge, gk, gv, bp, ok, ov, ob), _, ?_, bl_mkE (s := 6 + s) C (by omega) hcl hst (by omega) So Co P V ?_ hfs hr hm rfl, fun post hp => ?_, fun post hp => ?_⟩
    · omega
    · exact Or.inl ⟨s, rfl, ⟨r, t, hr, ht, hfc, Or.inr (Or.inl hk), pk_us, hkp, rfl⟩, bl_St_cg (Nat.le_refl _) (Nat.le_refl _) d h _ s (fun i hi => by simp only [bl_x, upd, vp_updL, if_neg (show ¬ i = d by omega)]) (fun i hi => by simp only [bl_y, upd, if_neg (show ¬ i = h by omega)]) S⟩
    · exact nm_r (nI_pred d) ⟨i3, nm_r (e' := nI (48 * r + t)) (by rw [cd, hfc]) ⟨i3, i3, nm_r (e' := upd fd d 1) (by rw [cd, hfd]; rfl) ⟨i240, nm_r (e' := 8) (by rw [cp, hk]) (br_f (by decide) (br_f (by decide) (br_f (by decide) (br_f (by decide) (br_f (by decide) (br_f (by decide) (br_f (by decide) (br_f (by decide) (br_t rfl (⟨i3, br_t (by rw [cd, pk_us]) (br_f z (bl_x_sp2 K.2.2 hr (by omega) E1 d3 p240 hfc hp))⟩))))))))))⟩⟩⟩
    · refine nm_r (nI_pred h) ⟨j3, nm_r (e' := nI (bl_yb r + t)) (by rw [ch, hgt]) ⟨j240, nm_r (e' := 8) (by rw [cq, kq, hk]) ⟨j240, nm_r (e' := vX (48 * r + t)) (by rw [cq, nq]) ⟨j3, nm_r (e' := 0) (by rw [ch, hph]) ⟨j3, j3, nm_r (e' := upd ph h 1) (by rw [ch, hph]; rfl) (br_f (by decide) (br_t (by decide) (br_t rfl (br_f (by decide) (br_t rfl (br_f (by decide) (br_f (by decide) (br_f (by decide) (br_f (by decide) (br_t rfl (nm_r (nI_pred h) ?_)))))))))))⟩⟩⟩⟩⟩
      have g : ∀ post' : SY → Prop, post' ((nI sc), (nI cl), (nI h), (fb d), (nI st), 1, (nI (bl_yb r + m)), (fs d), yk, yv, yc, yt, rk, rv, kY, nY, en, ln, pr, sp, pk, pv, th, ss, po, so, cy, cb, cs, gt, (upd ph h 1), ge, gk, gv, bp, ok, ov, ob) → wY_give_216 post' (nI h) (nI (bl_yb r + t)) (nI sc) (nI cl) (nI h) (fb d) (nI st) 0 ya ys yk yv yc yt rk rv kY nY en ln pr sp pk pv th ss po so cy cb cs gt (upd ph h 1) ge gk gv bp ok ov ob := by
        intro post' hp'
        refine bl_y_op1 y1 he ⟨j3, ?_⟩
        rw [ch, ← hge]; exact hp'
      exact br_c (fun a => br_f (fun c => zz ⟨a, c⟩) (g _ hp)) (fun _ => g _ hp)
theorem bl_G_keep5 (C : bl_Cf L dl kX vX df pr sp kY nY en ln) (hcl : cl ≤ st) (hst : st ≤ 300) (So : bl_So sp ss so po sc) (Co : bl_Co kX vX L cc cs cy cb sc cl) (P : bl_Po cl pl pk pv) (V : bl_Vo cl sc sv pk pv) (hd : d + 1 ≤ st) (hw : 3001 * sc + (3009 + s) ≤ 3010 * st) (S : bl_St kX vX L sc cl (bl_x fc fs fb fd fv fe kp kv) (bl_y gt ph ge gk gv bp ok ov ob) d h (fb d) s) (hg : bl_vg cl xg yk yv) (hr : r < 5) (ht : t < L r) (hfc : fc d = nI (48 * r + t)) (hgt : gt h = nI (bl_yb r + t)) (hge : fs d = ge h) (hfs : bl_sc sc (fs d)) (hob : fb d = ob h) (hk : kX (48 * r + t) = 5) (hfd : fd d = 0) (hph : ph h = 0) (hkp : kp d = -1) (hbp : bp h = -1) (hxb : xb = fb d) : ∃ u' v' q, q < 3010 * (300 - st) + (3009 + s) ∧ bl_RR L q u' v' ∧ (∀ post : SX → Prop, post u' → wpX_resumeFrame post (dl, lr, lc, (nI st), (nI (d + 1)), (nI cl), (nI sc), 1, xa, xs, xb, xg, 0, kX, vX, df, pr, sp, pl, th, fc, fs, fb, fd, fv, fe, kp, kv, cc, cs, ss, sv, so)) ∧ (∀ post : SY → Prop, post v' → wpY_give post ((nI sc), (nI cl), (nI (h + 1)), xb, (nI st), 0, ya, ys, yk, yv, yc, yt, rk, rv, kY, nY, en, ln, pr, sp, pk, pv, th, ss, po, so, cy, cb, cs, gt, ph, ge, gk, gv, bp, ok, ov, ob)) := by
  have K := C.1
  have p240 := bl_pX K hr ht
  have q240 := bl_pY K hr ht
  have kq := (bl_kY K hr ht).1
  have nq := (bl_kY K hr ht).2
  have tk := K.2.2 _ p240
  have R := C.2.1 r hr (by omega)
  have l48 := K.1 r hr
  have i240 : vp_in (nI (48 * r + t)) 240 := vp_in_nI p240 (by decide)
  have j240 : vp_in (nI (bl_yb r + t)) 240 := vp_in_nI q240 (by decide)
  have cp : (nI (48 * r + t)).toNatClampNeg = 48 * r + t := nI_clamp (by omega)
  have cq : (nI (bl_yb r + t)).toNatClampNeg = bl_yb r + t := nI_clamp (by omega)
  have hh := bl_St_le _ _ _ _ S
  have d3 : d < 300 := by omega
  have h3 : h < 320 := by omega
  have cd : (nI d).toNatClampNeg = d := nI_clamp (by omega)
  have ch : (nI h).toNatClampNeg = h := nI_clamp (by omega)
  have i3 : vp_in (nI d) 300 := vp_in_nI d3 (by decide)
  have j3 : vp_in (nI h) 320 := vp_in_nI h3 (by decide)
  have cl3 : cl < 1000 := by omega
  subst hxb
  have ka : 1 < bl_ar (kX (48 * r + t)) := by rw [hk]; decide
  have t1 := bl_p0 R ht (by omega)
  have y1 := bl_pY K hr t1
  obtain ⟨m, hm, E1, he⟩ := bl_p1 R ht ka
  refine ⟨(dl, lr, lc, (nI st), (nI (d + 1)), (nI cl), (nI sc), 0, (nI (48 * r + m)), (fs d), (fb d), xg, 0, kX, vX, df, pr, sp, pl, th, fc, fs, fb, (upd fd d 1), (vp_updL fv d xg), fe, kp, kv, cc, cs, ss, sv, so), ((nI sc), (nI cl), (nI (h + 1)), (fb d), (nI st), 1, (nI (bl_yb r + m)), (fs d), yk, yv, yc, yt, rk, rv, kY, nY, en, ln, pr, sp, pk, pv, th, ss, po, so, cy, cb, cs, gt, (upd ph h 1), ge, (upd gk h yk), (upd gv h yv), bp, ok, ov, ob), _, ?_, bl_mkE (s := 3007 + s) C (by omega) hcl hst (by omega) So Co P V ?_ hfs hr hm rfl, fun post hp => ?_, fun post hp => ?_⟩
  · omega
  · refine bl_St_mk (r := r) (t := t) (e := 1) hr ht hfc hgt hge hfs hob pk_us (by rw [hk]; decide) (by rw [hk]; rfl) (Or.inr (Or.inr (Or.inl ⟨rfl, pk_us, Or.inl hk, hkp, hbp, ?_⟩))) (bl_St_cg (Nat.le_refl _) (Nat.le_refl _) d h _ s (fun i hi => by simp only [bl_x, upd, vp_updL, if_neg (show ¬ i = d by omega)]) (fun i hi => by simp only [bl_y, upd, if_neg (show ¬ i = h by omega)]) S)
    rw [pk_uLs, pk_us, pk_us]; exact hg
  · exact nm_r (nI_pred d) ⟨i3, nm_r (e' := nI (48 * r + t)) (by rw [cd, hfc]) ⟨i3, i3, nm_r (e' := upd fd d 1) (by rw [cd, hfd]; rfl) ⟨i240, nm_r (e' := 5) (by rw [cp, hk]) (br_f (by decide) (br_f (by decide) (br_f (by decide) (br_f (by decide) (br_f (by decide) (br_t rfl (⟨i3, br_t (by rw [cd, pk_us]) ⟨i3, nm_r (e' := vp_updL fv d xg) (by rw [cd]) (bl_x_sp2 K.2.2 hr (by omega) E1 d3 p240 hfc hp)⟩⟩)))))))⟩⟩⟩
  · refine nm_r (nI_pred h) ⟨j3, nm_r (e' := nI (bl_yb r + t)) (by rw [ch, hgt]) ⟨j240, nm_r (e' := 5) (by rw [cq, kq, hk]) ⟨j240, nm_r (e' := vX (48 * r + t)) (by rw [cq, nq]) ⟨j3, nm_r (e' := 0) (by rw [ch, hph]) ⟨j3, j3, nm_r (e' := upd ph h 1) (by rw [ch, hph]; rfl) (br_t rfl (br_t rfl (br_f (by decide) (br_f (by decide) (⟨j3, nm_r (e' := upd gk h yk) (by rw [ch]) ⟨j3, nm_r (e' := upd gv h yv) (by rw [ch]) (bl_y_op1 y1 he ⟨j3, ?_⟩)⟩⟩)))))⟩⟩⟩⟩⟩
    rw [ch, ← hge]; exact hp
theorem bl_G_keep9 (C : bl_Cf L dl kX vX df pr sp kY nY en ln) (hcl : cl ≤ st) (hst : st ≤ 300) (So : bl_So sp ss so po sc) (Co : bl_Co kX vX L cc cs cy cb sc cl) (P : bl_Po cl pl pk pv) (V : bl_Vo cl sc sv pk pv) (hd : d + 1 ≤ st) (hw : 3001 * sc + (3009 + s) ≤ 3010 * st) (S : bl_St kX vX L sc cl (bl_x fc fs fb fd fv fe kp kv) (bl_y gt ph ge gk gv bp ok ov ob) d h (fb d) s) (hg : bl_vg cl xg yk yv) (hr : r < 5) (ht : t < L r) (hfc : fc d = nI (48 * r + t)) (hgt : gt h = nI (bl_yb r + t)) (hge : fs d = ge h) (hfs : bl_sc sc (fs d)) (hob : fb d = ob h) (hk : kX (48 * r + t) = 9) (hfd : fd d = 0) (hph : ph h = 0) (hkp : kp d = -1) (hbp : bp h = -1) (hxb : xb = fb d) : ∃ u' v' q, q < 3010 * (300 - st) + (3009 + s) ∧ bl_RR L q u' v' ∧ (∀ post : SX → Prop, post u' → wpX_resumeFrame post (dl, lr, lc, (nI st), (nI (d + 1)), (nI cl), (nI sc), 1, xa, xs, xb, xg, 0, kX, vX, df, pr, sp, pl, th, fc, fs, fb, fd, fv, fe, kp, kv, cc, cs, ss, sv, so)) ∧ (∀ post : SY → Prop, post v' → wpY_give post ((nI sc), (nI cl), (nI (h + 1)), xb, (nI st), 0, ya, ys, yk, yv, yc, yt, rk, rv, kY, nY, en, ln, pr, sp, pk, pv, th, ss, po, so, cy, cb, cs, gt, ph, ge, gk, gv, bp, ok, ov, ob)) := by
  have K := C.1
  have p240 := bl_pX K hr ht
  have q240 := bl_pY K hr ht
  have kq := (bl_kY K hr ht).1
  have nq := (bl_kY K hr ht).2
  have tk := K.2.2 _ p240
  have R := C.2.1 r hr (by omega)
  have l48 := K.1 r hr
  have i240 : vp_in (nI (48 * r + t)) 240 := vp_in_nI p240 (by decide)
  have j240 : vp_in (nI (bl_yb r + t)) 240 := vp_in_nI q240 (by decide)
  have cp : (nI (48 * r + t)).toNatClampNeg = 48 * r + t := nI_clamp (by omega)
  have cq : (nI (bl_yb r + t)).toNatClampNeg = bl_yb r + t := nI_clamp (by omega)
  have hh := bl_St_le _ _ _ _ S
  have d3 : d < 300 := by omega
  have h3 : h < 320 := by omega
  have cd : (nI d).toNatClampNeg = d := nI_clamp (by omega)
  have ch : (nI h).toNatClampNeg = h := nI_clamp (by omega)
  have i3 : vp_in (nI d) 300 := vp_in_nI d3 (by decide)
  have j3 : vp_in (nI h) 320 := vp_in_nI h3 (by decide)
  have cl3 : cl < 1000 := by omega
  subst hxb
  have ka : 1 < bl_ar (kX (48 * r + t)) := by rw [hk]; decide
  have t1 := bl_p0 R ht (by omega)
  have y1 := bl_pY K hr t1
  obtain ⟨m, hm, E1, he⟩ := bl_p1 R ht ka
  refine ⟨(dl, lr, lc, (nI st), (nI (d + 1)), (nI cl), (nI sc), 0, (nI (48 * r + m)), (fs d), (fb d), xg, 0, kX, vX, df, pr, sp, pl, th, fc, fs, fb, (upd fd d 1), (vp_updL fv d xg), fe, kp, kv, cc, cs, ss, sv, so), ((nI sc), (nI cl), (nI (h + 1)), (fb d), (nI st), 1, (nI (bl_yb r + m)), (fs d), yk, yv, yc, yt, rk, rv, kY, nY, en, ln, pr, sp, pk, pv, th, ss, po, so, cy, cb, cs, gt, (upd ph h 1), ge, (upd gk h yk), (upd gv h yv), bp, ok, ov, ob), _, ?_, bl_mkE (s := 6 + s) C (by omega) hcl hst (by omega) So Co P V ?_ hfs hr hm rfl, fun post hp => ?_, fun post hp => ?_⟩
  · omega
  · refine bl_St_mk (r := r) (t := t) (e := 1) hr ht hfc hgt hge hfs hob pk_us (by rw [hk]; decide) (by rw [hk]; rfl) (Or.inr (Or.inr (Or.inl ⟨rfl, pk_us, Or.inr (Or.inl hk), hkp, hbp, ?_⟩))) (bl_St_cg (Nat.le_refl _) (Nat.le_refl _) d h _ s (fun i hi => by simp only [bl_x, upd, vp_updL, if_neg (show ¬ i = d by omega)]) (fun i hi => by simp only [bl_y, upd, if_neg (show ¬ i = h by omega)]) S)
    rw [pk_uLs, pk_us, pk_us]; exact hg
  · exact nm_r (nI_pred d) ⟨i3, nm_r (e' := nI (48 * r + t)) (by rw [cd, hfc]) ⟨i3, i3, nm_r (e' := upd fd d 1) (by rw [cd, hfd]; rfl) ⟨i240, nm_r (e' := 9) (by rw [cp, hk]) (br_f (by decide) (br_f (by decide) (br_f (by decide) (br_f (by decide) (br_f (by decide) (br_f (by decide) (br_f (by decide) (br_f (by decide) (br_f (by decide) (br_t rfl (⟨i240, ⟨i3, br_t (by rw [cd, pk_us]) ⟨i3, nm_r (e' := vp_updL fv d xg) (by rw [cd]) (bl_x_sp2 K.2.2 hr (by omega) E1 d3 p240 hfc hp)⟩⟩⟩)))))))))))⟩⟩⟩
  · refine nm_r (nI_pred h) ⟨j3, nm_r (e' := nI (bl_yb r + t)) (by rw [ch, hgt]) ⟨j240, nm_r (e' := 9) (by rw [cq, kq, hk]) ⟨j240, nm_r (e' := vX (48 * r + t)) (by rw [cq, nq]) ⟨j3, nm_r (e' := 0) (by rw [ch, hph]) ⟨j3, j3, nm_r (e' := upd ph h 1) (by rw [ch, hph]; rfl) (br_f (by decide) (br_f (by decide) (br_f (by decide) (br_t rfl (br_f (by decide) (br_f (by decide) (⟨j3, nm_r (e' := upd gk h yk) (by rw [ch]) ⟨j3, nm_r (e' := upd gv h yv) (by rw [ch]) (bl_y_op1 y1 he ⟨j3, ?_⟩)⟩⟩)))))))⟩⟩⟩⟩⟩
    rw [ch, ← hge]; exact hp
theorem bl_G_keep10 (C : bl_Cf L dl kX vX df pr sp kY nY en ln) (hcl : cl ≤ st) (hst : st ≤ 300) (So : bl_So sp ss so po sc) (Co : bl_Co kX vX L cc cs cy cb sc cl) (P : bl_Po cl pl pk pv) (V : bl_Vo cl sc sv pk pv) (hd : d + 1 ≤ st) (hw : 3001 * sc + (3009 + s) ≤ 3010 * st) (S : bl_St kX vX L sc cl (bl_x fc fs fb fd fv fe kp kv) (bl_y gt ph ge gk gv bp ok ov ob) d h (fb d) s) (hg : bl_vg cl xg yk yv) (hr : r < 5) (ht : t < L r) (hfc : fc d = nI (48 * r + t)) (hgt : gt h = nI (bl_yb r + t)) (hge : fs d = ge h) (hfs : bl_sc sc (fs d)) (hob : fb d = ob h) (hk : kX (48 * r + t) = 10) (hfd : fd d = 0) (hph : ph h = 0) (hkp : kp d = -1) (hbp : bp h = -1) (hxb : xb = fb d) : ∃ u' v' q, q < 3010 * (300 - st) + (3009 + s) ∧ bl_RR L q u' v' ∧ (∀ post : SX → Prop, post u' → wpX_resumeFrame post (dl, lr, lc, (nI st), (nI (d + 1)), (nI cl), (nI sc), 1, xa, xs, xb, xg, 0, kX, vX, df, pr, sp, pl, th, fc, fs, fb, fd, fv, fe, kp, kv, cc, cs, ss, sv, so)) ∧ (∀ post : SY → Prop, post v' → wpY_give post ((nI sc), (nI cl), (nI (h + 1)), xb, (nI st), 0, ya, ys, yk, yv, yc, yt, rk, rv, kY, nY, en, ln, pr, sp, pk, pv, th, ss, po, so, cy, cb, cs, gt, ph, ge, gk, gv, bp, ok, ov, ob)) := by
  have K := C.1
  have p240 := bl_pX K hr ht
  have q240 := bl_pY K hr ht
  have kq := (bl_kY K hr ht).1
  have nq := (bl_kY K hr ht).2
  have tk := K.2.2 _ p240
  have R := C.2.1 r hr (by omega)
  have l48 := K.1 r hr
  have i240 : vp_in (nI (48 * r + t)) 240 := vp_in_nI p240 (by decide)
  have j240 : vp_in (nI (bl_yb r + t)) 240 := vp_in_nI q240 (by decide)
  have cp : (nI (48 * r + t)).toNatClampNeg = 48 * r + t := nI_clamp (by omega)
  have cq : (nI (bl_yb r + t)).toNatClampNeg = bl_yb r + t := nI_clamp (by omega)
  have hh := bl_St_le _ _ _ _ S
  have d3 : d < 300 := by omega
  have h3 : h < 320 := by omega
  have cd : (nI d).toNatClampNeg = d := nI_clamp (by omega)
  have ch : (nI h).toNatClampNeg = h := nI_clamp (by omega)
  have i3 : vp_in (nI d) 300 := vp_in_nI d3 (by decide)
  have j3 : vp_in (nI h) 320 := vp_in_nI h3 (by decide)
  have cl3 : cl < 1000 := by omega
  subst hxb
  have ka : 1 < bl_ar (kX (48 * r + t)) := by rw [hk]; decide
  have t1 := bl_p0 R ht (by omega)
  have y1 := bl_pY K hr t1
  obtain ⟨m, hm, E1, he⟩ := bl_p1 R ht ka
  refine ⟨(dl, lr, lc, (nI st), (nI (d + 1)), (nI cl), (nI sc), 0, (nI (48 * r + m)), (fs d), (fb d), xg, 0, kX, vX, df, pr, sp, pl, th, fc, fs, fb, (upd fd d 1), (vp_updL fv d xg), fe, kp, kv, cc, cs, ss, sv, so), ((nI sc), (nI cl), (nI (h + 1)), (fb d), (nI st), 1, (nI (bl_yb r + m)), (fs d), yk, yv, yc, yt, rk, rv, kY, nY, en, ln, pr, sp, pk, pv, th, ss, po, so, cy, cb, cs, gt, (upd ph h 1), ge, (upd gk h yk), (upd gv h yv), bp, ok, ov, ob), _, ?_, bl_mkE (s := 6 + s) C (by omega) hcl hst (by omega) So Co P V ?_ hfs hr hm rfl, fun post hp => ?_, fun post hp => ?_⟩
  · omega
  · refine bl_St_mk (r := r) (t := t) (e := 1) hr ht hfc hgt hge hfs hob pk_us (by rw [hk]; decide) (by rw [hk]; rfl) (Or.inr (Or.inr (Or.inl ⟨rfl, pk_us, Or.inr (Or.inr (Or.inl hk)), hkp, hbp, ?_⟩))) (bl_St_cg (Nat.le_refl _) (Nat.le_refl _) d h _ s (fun i hi => by simp only [bl_x, upd, vp_updL, if_neg (show ¬ i = d by omega)]) (fun i hi => by simp only [bl_y, upd, if_neg (show ¬ i = h by omega)]) S)
    rw [pk_uLs, pk_us, pk_us]; exact hg
  · exact nm_r (nI_pred d) ⟨i3, nm_r (e' := nI (48 * r + t)) (by rw [cd, hfc]) ⟨i3, i3, nm_r (e' := upd fd d 1) (by rw [cd, hfd]; rfl) ⟨i240, nm_r (e' := 10) (by rw [cp, hk]) (br_f (by decide) (br_f (by decide) (br_f (by decide) (br_f (by decide) (br_f (by decide) (br_f (by decide) (br_f (by decide) (br_f (by decide) (br_f (by decide) (br_f (by decide) (br_t rfl (⟨i240, ⟨i3, br_t (by rw [cd, pk_us]) ⟨i3, nm_r (e' := vp_updL fv d xg) (by rw [cd]) (bl_x_sp2 K.2.2 hr (by omega) E1 d3 p240 hfc hp)⟩⟩⟩))))))))))))⟩⟩⟩
  · refine nm_r (nI_pred h) ⟨j3, nm_r (e' := nI (bl_yb r + t)) (by rw [ch, hgt]) ⟨j240, nm_r (e' := 10) (by rw [cq, kq, hk]) ⟨j240, nm_r (e' := vX (48 * r + t)) (by rw [cq, nq]) ⟨j3, nm_r (e' := 0) (by rw [ch, hph]) ⟨j3, j3, nm_r (e' := upd ph h 1) (by rw [ch, hph]; rfl) (br_f (by decide) (br_f (by decide) (br_f (by decide) (br_t rfl (br_f (by decide) (br_f (by decide) (⟨j3, nm_r (e' := upd gk h yk) (by rw [ch]) ⟨j3, nm_r (e' := upd gv h yv) (by rw [ch]) (bl_y_op1 y1 he ⟨j3, ?_⟩)⟩⟩)))))))⟩⟩⟩⟩⟩
    rw [ch, ← hge]; exact hp
theorem bl_G_keep11 (C : bl_Cf L dl kX vX df pr sp kY nY en ln) (hcl : cl ≤ st) (hst : st ≤ 300) (So : bl_So sp ss so po sc) (Co : bl_Co kX vX L cc cs cy cb sc cl) (P : bl_Po cl pl pk pv) (V : bl_Vo cl sc sv pk pv) (hd : d + 1 ≤ st) (hw : 3001 * sc + (3009 + s) ≤ 3010 * st) (S : bl_St kX vX L sc cl (bl_x fc fs fb fd fv fe kp kv) (bl_y gt ph ge gk gv bp ok ov ob) d h (fb d) s) (hg : bl_vg cl xg yk yv) (hr : r < 5) (ht : t < L r) (hfc : fc d = nI (48 * r + t)) (hgt : gt h = nI (bl_yb r + t)) (hge : fs d = ge h) (hfs : bl_sc sc (fs d)) (hob : fb d = ob h) (hk : kX (48 * r + t) = 11) (hfd : fd d = 0) (hph : ph h = 0) (hkp : kp d = -1) (hbp : bp h = -1) (hxb : xb = fb d) : ∃ u' v' q, q < 3010 * (300 - st) + (3009 + s) ∧ bl_RR L q u' v' ∧ (∀ post : SX → Prop, post u' → wpX_resumeFrame post (dl, lr, lc, (nI st), (nI (d + 1)), (nI cl), (nI sc), 1, xa, xs, xb, xg, 0, kX, vX, df, pr, sp, pl, th, fc, fs, fb, fd, fv, fe, kp, kv, cc, cs, ss, sv, so)) ∧ (∀ post : SY → Prop, post v' → wpY_give post ((nI sc), (nI cl), (nI (h + 1)), xb, (nI st), 0, ya, ys, yk, yv, yc, yt, rk, rv, kY, nY, en, ln, pr, sp, pk, pv, th, ss, po, so, cy, cb, cs, gt, ph, ge, gk, gv, bp, ok, ov, ob)) := by
  have K := C.1
  have p240 := bl_pX K hr ht
  have q240 := bl_pY K hr ht
  have kq := (bl_kY K hr ht).1
  have nq := (bl_kY K hr ht).2
  have tk := K.2.2 _ p240
  have R := C.2.1 r hr (by omega)
  have l48 := K.1 r hr
  have i240 : vp_in (nI (48 * r + t)) 240 := vp_in_nI p240 (by decide)
  have j240 : vp_in (nI (bl_yb r + t)) 240 := vp_in_nI q240 (by decide)
  have cp : (nI (48 * r + t)).toNatClampNeg = 48 * r + t := nI_clamp (by omega)
  have cq : (nI (bl_yb r + t)).toNatClampNeg = bl_yb r + t := nI_clamp (by omega)
  have hh := bl_St_le _ _ _ _ S
  have d3 : d < 300 := by omega
  have h3 : h < 320 := by omega
  have cd : (nI d).toNatClampNeg = d := nI_clamp (by omega)
  have ch : (nI h).toNatClampNeg = h := nI_clamp (by omega)
  have i3 : vp_in (nI d) 300 := vp_in_nI d3 (by decide)
  have j3 : vp_in (nI h) 320 := vp_in_nI h3 (by decide)
  have cl3 : cl < 1000 := by omega
  subst hxb
  have ka : 1 < bl_ar (kX (48 * r + t)) := by rw [hk]; decide
  have t1 := bl_p0 R ht (by omega)
  have y1 := bl_pY K hr t1
  obtain ⟨m, hm, E1, he⟩ := bl_p1 R ht ka
  refine ⟨(dl, lr, lc, (nI st), (nI (d + 1)), (nI cl), (nI sc), 0, (nI (48 * r + m)), (fs d), (fb d), xg, 0, kX, vX, df, pr, sp, pl, th, fc, fs, fb, (upd fd d 1), (vp_updL fv d xg), fe, kp, kv, cc, cs, ss, sv, so), ((nI sc), (nI cl), (nI (h + 1)), (fb d), (nI st), 1, (nI (bl_yb r + m)), (fs d), yk, yv, yc, yt, rk, rv, kY, nY, en, ln, pr, sp, pk, pv, th, ss, po, so, cy, cb, cs, gt, (upd ph h 1), ge, (upd gk h yk), (upd gv h yv), bp, ok, ov, ob), _, ?_, bl_mkE (s := 6 + s) C (by omega) hcl hst (by omega) So Co P V ?_ hfs hr hm rfl, fun post hp => ?_, fun post hp => ?_⟩
  · omega
  · refine bl_St_mk (r := r) (t := t) (e := 1) hr ht hfc hgt hge hfs hob pk_us (by rw [hk]; decide) (by rw [hk]; rfl) (Or.inr (Or.inr (Or.inl ⟨rfl, pk_us, Or.inr (Or.inr (Or.inr hk)), hkp, hbp, ?_⟩))) (bl_St_cg (Nat.le_refl _) (Nat.le_refl _) d h _ s (fun i hi => by simp only [bl_x, upd, vp_updL, if_neg (show ¬ i = d by omega)]) (fun i hi => by simp only [bl_y, upd, if_neg (show ¬ i = h by omega)]) S)
    rw [pk_uLs, pk_us, pk_us]; exact hg
  · exact nm_r (nI_pred d) ⟨i3, nm_r (e' := nI (48 * r + t)) (by rw [cd, hfc]) ⟨i3, i3, nm_r (e' := upd fd d 1) (by rw [cd, hfd]; rfl) ⟨i240, nm_r (e' := 11) (by rw [cp, hk]) (br_f (by decide) (br_f (by decide) (br_f (by decide) (br_f (by decide) (br_f (by decide) (br_f (by decide) (br_f (by decide) (br_f (by decide) (br_f (by decide) (br_f (by decide) (br_f (by decide) (br_t rfl (⟨i240, ⟨i3, br_t (by rw [cd, pk_us]) ⟨i3, nm_r (e' := vp_updL fv d xg) (by rw [cd]) (bl_x_sp2 K.2.2 hr (by omega) E1 d3 p240 hfc hp)⟩⟩⟩)))))))))))))⟩⟩⟩
  · refine nm_r (nI_pred h) ⟨j3, nm_r (e' := nI (bl_yb r + t)) (by rw [ch, hgt]) ⟨j240, nm_r (e' := 11) (by rw [cq, kq, hk]) ⟨j240, nm_r (e' := vX (48 * r + t)) (by rw [cq, nq]) ⟨j3, nm_r (e' := 0) (by rw [ch, hph]) ⟨j3, j3, nm_r (e' := upd ph h 1) (by rw [ch, hph]; rfl) (br_f (by decide) (br_f (by decide) (br_f (by decide) (br_t rfl (br_f (by decide) (br_f (by decide) (⟨j3, nm_r (e' := upd gk h yk) (by rw [ch]) ⟨j3, nm_r (e' := upd gv h yv) (by rw [ch]) (bl_y_op1 y1 he ⟨j3, ?_⟩)⟩⟩)))))))⟩⟩⟩⟩⟩
    rw [ch, ← hge]; exact hp
theorem bl_G_keep15 (C : bl_Cf L dl kX vX df pr sp kY nY en ln) (hcl : cl ≤ st) (hst : st ≤ 300) (So : bl_So sp ss so po sc) (Co : bl_Co kX vX L cc cs cy cb sc cl) (P : bl_Po cl pl pk pv) (V : bl_Vo cl sc sv pk pv) (hd : d + 1 ≤ st) (hw : 3001 * sc + (3009 + s) ≤ 3010 * st) (S : bl_St kX vX L sc cl (bl_x fc fs fb fd fv fe kp kv) (bl_y gt ph ge gk gv bp ok ov ob) d h (fb d) s) (hg : bl_vg cl xg yk yv) (hr : r < 5) (ht : t < L r) (hfc : fc d = nI (48 * r + t)) (hgt : gt h = nI (bl_yb r + t)) (hge : fs d = ge h) (hfs : bl_sc sc (fs d)) (hob : fb d = ob h) (hk : kX (48 * r + t) = 15) (hfd : fd d = 0) (hph : ph h = 0) (hkp : kp d = -1) (hbp : bp h = -1) (hxb : xb = fb d) : ∃ u' v' q, q < 3010 * (300 - st) + (3009 + s) ∧ bl_RR L q u' v' ∧ (∀ post : SX → Prop, post u' → wpX_resumeFrame post (dl, lr, lc, (nI st), (nI (d + 1)), (nI cl), (nI sc), 1, xa, xs, xb, xg, 0, kX, vX, df, pr, sp, pl, th, fc, fs, fb, fd, fv, fe, kp, kv, cc, cs, ss, sv, so)) ∧ (∀ post : SY → Prop, post v' → wpY_give post ((nI sc), (nI cl), (nI (h + 1)), xb, (nI st), 0, ya, ys, yk, yv, yc, yt, rk, rv, kY, nY, en, ln, pr, sp, pk, pv, th, ss, po, so, cy, cb, cs, gt, ph, ge, gk, gv, bp, ok, ov, ob)) := by
  have K := C.1
  have p240 := bl_pX K hr ht
  have q240 := bl_pY K hr ht
  have kq := (bl_kY K hr ht).1
  have nq := (bl_kY K hr ht).2
  have tk := K.2.2 _ p240
  have R := C.2.1 r hr (by omega)
  have l48 := K.1 r hr
  have i240 : vp_in (nI (48 * r + t)) 240 := vp_in_nI p240 (by decide)
  have j240 : vp_in (nI (bl_yb r + t)) 240 := vp_in_nI q240 (by decide)
  have cp : (nI (48 * r + t)).toNatClampNeg = 48 * r + t := nI_clamp (by omega)
  have cq : (nI (bl_yb r + t)).toNatClampNeg = bl_yb r + t := nI_clamp (by omega)
  have hh := bl_St_le _ _ _ _ S
  have d3 : d < 300 := by omega
  have h3 : h < 320 := by omega
  have cd : (nI d).toNatClampNeg = d := nI_clamp (by omega)
  have ch : (nI h).toNatClampNeg = h := nI_clamp (by omega)
  have i3 : vp_in (nI d) 300 := vp_in_nI d3 (by decide)
  have j3 : vp_in (nI h) 320 := vp_in_nI h3 (by decide)
  have cl3 : cl < 1000 := by omega
  subst hxb
  have ka : 1 < bl_ar (kX (48 * r + t)) := by rw [hk]; decide
  have t1 := bl_p0 R ht (by omega)
  have y1 := bl_pY K hr t1
  obtain ⟨m, hm, E1, he⟩ := bl_p1 R ht ka
  refine ⟨(dl, lr, lc, (nI st), (nI (d + 1)), (nI cl), (nI sc), 0, (nI (48 * r + m)), (fs d), (fb d), xg, 0, kX, vX, df, pr, sp, pl, th, fc, fs, fb, (upd (upd fd d 1) d 1), (vp_updL fv d xg), (upd fe d 0), kp, kv, cc, cs, ss, sv, so), ((nI sc), (nI cl), (nI (h + 1)), (fb d), (nI st), 1, (nI (bl_yb r + m)), (fs d), yk, yv, yc, yt, rk, rv, kY, nY, en, ln, pr, sp, pk, pv, th, ss, po, so, cy, cb, cs, gt, (upd ph h 1), ge, (upd gk h yk), (upd gv h yv), bp, ok, ov, ob), _, ?_, bl_mkE (s := 6 + s) C (by omega) hcl hst (by omega) So Co P V ?_ hfs hr hm rfl, fun post hp => ?_, fun post hp => ?_⟩
  · omega
  · refine bl_St_mk (r := r) (t := t) (e := 1) hr ht hfc hgt hge hfs hob pk_us (by rw [hk]; decide) (by rw [hk]; rfl) (Or.inr (Or.inr (Or.inr (Or.inr (Or.inl ⟨rfl, pk_us, hk, hkp, hbp, pk_us, ?_⟩))))) (bl_St_cg (Nat.le_refl _) (Nat.le_refl _) d h _ s (fun i hi => by simp only [bl_x, upd, vp_updL, if_neg (show ¬ i = d by omega)]) (fun i hi => by simp only [bl_y, upd, if_neg (show ¬ i = h by omega)]) S)
    rw [pk_uLs, pk_us, pk_us]; exact hg
  · exact nm_r (nI_pred d) ⟨i3, nm_r (e' := nI (48 * r + t)) (by rw [cd, hfc]) ⟨i3, i3, nm_r (e' := upd fd d 1) (by rw [cd, hfd]; rfl) ⟨i240, nm_r (e' := 15) (by rw [cp, hk]) (br_f (by decide) (br_f (by decide) (br_f (by decide) (br_f (by decide) (br_f (by decide) (br_f (by decide) (br_f (by decide) (br_f (by decide) (br_f (by decide) (br_f (by decide) (br_f (by decide) (br_f (by decide) (br_f (by decide) (br_f (by decide) (br_f (by decide) (br_t rfl (⟨i3, br_t (by rw [cd, pk_us]) ⟨i3, nm_r (e' := upd (upd fd d 1) d 1) (by rw [cd]) ⟨i3, nm_r (e' := vp_updL fv d xg) (by rw [cd]) ⟨i3, nm_r (e' := upd fe d 0) (by rw [cd]) (bl_x_sp2 K.2.2 hr (by omega) E1 d3 p240 hfc hp)⟩⟩⟩⟩)))))))))))))))))⟩⟩⟩
  · refine nm_r (nI_pred h) ⟨j3, nm_r (e' := nI (bl_yb r + t)) (by rw [ch, hgt]) ⟨j240, nm_r (e' := 15) (by rw [cq, kq, hk]) ⟨j240, nm_r (e' := vX (48 * r + t)) (by rw [cq, nq]) ⟨j3, nm_r (e' := 0) (by rw [ch, hph]) ⟨j3, j3, nm_r (e' := upd ph h 1) (by rw [ch, hph]; rfl) (br_f (by decide) (br_f (by decide) (br_t (by decide) (br_t rfl (br_f (by decide) (br_t rfl (br_t rfl (⟨j3, nm_r (e' := upd gk h yk) (by rw [ch]) ⟨j3, nm_r (e' := upd gv h yv) (by rw [ch]) (bl_y_op1 y1 he ⟨j3, ?_⟩)⟩⟩))))))))⟩⟩⟩⟩⟩
    rw [ch, ← hge]; exact hp
theorem bl_G_let (C : bl_Cf L dl kX vX df pr sp kY nY en ln) (hcl : cl ≤ st) (hst : st ≤ 300) (So : bl_So sp ss so po sc) (Co : bl_Co kX vX L cc cs cy cb sc cl) (P : bl_Po cl pl pk pv) (V : bl_Vo cl sc sv pk pv) (hd : d + 1 ≤ st) (hw : 3001 * sc + (3009 + s) ≤ 3010 * st) (S : bl_St kX vX L sc cl (bl_x fc fs fb fd fv fe kp kv) (bl_y gt ph ge gk gv bp ok ov ob) d h (fb d) s) (hg : bl_vg cl xg yk yv) (hr : r < 5) (ht : t < L r) (hfc : fc d = nI (48 * r + t)) (hgt : gt h = nI (bl_yb r + t)) (hge : fs d = ge h) (hfs : bl_sc sc (fs d)) (hob : fb d = ob h) (hk : kX (48 * r + t) = 3) (hfd : fd d = 0) (hph : ph h = 0) (hkp : kp d = -1) (hbp : bp h = -1) (hxb : xb = fb d) : ∃ u' v' q, q < 3010 * (300 - st) + (3009 + s) ∧ bl_RR L q u' v' ∧ (∀ post : SX → Prop, post u' → wpX_resumeFrame post (dl, lr, lc, (nI st), (nI (d + 1)), (nI cl), (nI sc), 1, xa, xs, xb, xg, 0, kX, vX, df, pr, sp, pl, th, fc, fs, fb, fd, fv, fe, kp, kv, cc, cs, ss, sv, so)) ∧ (∀ post : SY → Prop, post v' → wpY_give post ((nI sc), (nI cl), (nI (h + 1)), xb, (nI st), 0, ya, ys, yk, yv, yc, yt, rk, rv, kY, nY, en, ln, pr, sp, pk, pv, th, ss, po, so, cy, cb, cs, gt, ph, ge, gk, gv, bp, ok, ov, ob)) := by
  have K := C.1
  have p240 := bl_pX K hr ht
  have q240 := bl_pY K hr ht
  have kq := (bl_kY K hr ht).1
  have nq := (bl_kY K hr ht).2
  have tk := K.2.2 _ p240
  have R := C.2.1 r hr (by omega)
  have l48 := K.1 r hr
  have i240 : vp_in (nI (48 * r + t)) 240 := vp_in_nI p240 (by decide)
  have j240 : vp_in (nI (bl_yb r + t)) 240 := vp_in_nI q240 (by decide)
  have cp : (nI (48 * r + t)).toNatClampNeg = 48 * r + t := nI_clamp (by omega)
  have cq : (nI (bl_yb r + t)).toNatClampNeg = bl_yb r + t := nI_clamp (by omega)
  have hh := bl_St_le _ _ _ _ S
  have d3 : d < 300 := by omega
  have h3 : h < 320 := by omega
  have cd : (nI d).toNatClampNeg = d := nI_clamp (by omega)
  have ch : (nI h).toNatClampNeg = h := nI_clamp (by omega)
  have i3 : vp_in (nI d) 300 := vp_in_nI d3 (by decide)
  have j3 : vp_in (nI h) 320 := vp_in_nI h3 (by decide)
  have cl3 : cl < 1000 := by omega
  obtain ⟨b, hb, eb⟩ := bl_St_b K _ _ _ _ S
  rw [eb] at hxb
  subst hxb
  have ka : 1 < bl_ar (kX (48 * r + t)) := by rw [hk]; decide
  have t1 := bl_p0 R ht (by omega)
  have y1 := bl_pY K hr t1
  obtain ⟨m, hm, E1, he⟩ := bl_p1 R ht ka
  obtain ⟨j, hj, ej⟩ := bl_tk8 tk (by rw [hk]; decide)
  obtain ⟨pl', pk', pv', ss', sv', so', po', kp', kv', bp', ok', ov', sc', i, So', P', V', s1, s2, hsi, hbd, hkk, hoo, hX, hY⟩ := bl_bind (dl := dl) (lr := lr) (lc := lc) (xst := nI st) (xcl := nI cl) (xm := 1) (xa := xa) (xs := xs) (xg := xg) (xe := 0) (kX := kX) (vX := vX) (df := df) (pr := pr) (sp := sp) (pl := pl) (th := th) (fc := fc) (fs := fs) (fb := fb) (fd := upd fd d 1) (fv := fv) (fe := fe) (kp := kp) (kv := kv) (cc := cc) (cs := cs) (ss := ss) (sv := sv) (so := so) (ycl := nI cl) (yw := nI (h + 1)) (ym := 0) (ya := ya) (ys := ys) (yk := yk) (yv := yv) (yc := yc) (yt := yt) (rk := rk) (rv := rv) (kY := kY) (nY := nY) (en := en) (ln := ln) (pk := pk) (pv := pv) (po := po) (cy := cy) (cb := cb) (gt := gt) (ph := upd ph h 1) (ge := ge) (gk := gk) (gv := gv) (bp := bp) (ok := ok) (ov := ov) (ob := ob) (d := d) (w := h) (j := j) (b := b) (o := fs d) (tk := nI (bl_yb r + m)) So P V (by omega) d3 h3 hj hb (hfs) hg hkp hbp
  refine ⟨(dl, lr, lc, (nI st), (nI (d + 1)), (nI cl), (nI sc'), 0, (nI (48 * r + m)), i, (nI b), xg, 0, kX, vX, df, pr, sp, pl', th, fc, fs, fb, (upd fd d 1), fv, fe, kp', kv', cc, cs, ss', sv', so'), ((nI sc'), (nI cl), (nI (h + 1)), (nI b), (nI st), 1, (nI (bl_yb r + m)), i, yk, yv, yc, yt, rk, rv, kY, nY, en, ln, pr, sp, pk', pv', th, ss', po', so', cy, cb, cs, gt, (upd ph h 1), ge, gk, gv, bp', ok', ov', ob), _, ?_, bl_mkE (s := 6 + s) C (by omega) hcl hst (by omega) So' (bl_Co_up s1 Co) P' V' ?_ hsi hr hm rfl, fun post hp => ?_, fun post hp => ?_⟩
  · omega
  · exact bl_St_mk (r := r) (t := t) (e := 1) hr ht hfc hgt hge (bl_sc_up s1 hfs) hob pk_us (by rw [hk]; decide) (by rw [hk, eb]; rfl) (Or.inr (Or.inl ⟨rfl, pk_us, Or.inl hk, hbd⟩)) (bl_St_cg s1 (Nat.le_refl _) d h _ s (fun i hi => by simp only [bl_x, upd, vp_updL, if_neg (show ¬ i = d by omega), (hkk i (by omega)).1, (hkk i (by omega)).2]) (fun i hi => by simp only [bl_y, upd, if_neg (show ¬ i = h by omega), (hoo i (by omega)).1, (hoo i (by omega)).2.1, (hoo i (by omega)).2.2]) S)
  · refine nm_r (nI_pred d) ⟨i3, nm_r (e' := nI (48 * r + t)) (by rw [cd, hfc]) ⟨i3, i3, nm_r (e' := upd fd d 1) (by rw [cd, hfd]; rfl) ⟨i240, nm_r (e' := 3) (by rw [cp, hk]) (br_f (by decide) (br_f (by decide) (br_f (by decide) (br_t rfl (⟨i240, ⟨i3, br_t (by rw [cd, pk_us]) ⟨i3, ?_⟩⟩⟩)))))⟩⟩⟩
    rw [cp, cd, ej]
    exact hX _ (bl_x_sp2 K.2.2 hr (by omega) E1 d3 p240 hfc hp)
  · refine nm_r (nI_pred h) ⟨j3, nm_r (e' := nI (bl_yb r + t)) (by rw [ch, hgt]) ⟨j240, nm_r (e' := 3) (by rw [cq, kq, hk]) ⟨j240, nm_r (e' := vX (48 * r + t)) (by rw [cq, nq]) ⟨j3, nm_r (e' := 0) (by rw [ch, hph]) ⟨j3, j3, nm_r (e' := upd ph h 1) (by rw [ch, hph]; rfl) (br_f (by decide) (br_t (by decide) (br_t rfl (br_f (by decide) (br_t rfl (br_f (by decide) (br_f (by decide) (br_f (by decide) (br_f (by decide) (br_f (by decide) (br_f (by decide) (br_t rfl (bl_y_op1 y1 he ⟨j3, ?_⟩)))))))))))))⟩⟩⟩⟩⟩
    rw [ch, ej, ← hge]
    exact hY _ hp
end
