/-! which turn is due -/
section
variable {dl lc xst xd xcl xsc xm xa xs xb xe yen ycl yw ym ya ys yk yv yc yt rk rv : Int32}
variable {lr xg : Int64}
variable {kX vX df pr sp th fc fs fb fd fe kp cc cs ss so kY nY en ln pk pv po cy cb gt ph ge gk gv bp ok ov ob : Nat → Int32}
variable {pl fv kv sv : Nat → Int64}
variable {L : Nat → Nat} {q d h sc cl st s r t m m2 p j b w e : Nat}
theorem bl_TE (C : bl_Cf L dl kX vX df pr sp kY nY en ln) (hcl : cl ≤ st) (hst : st ≤ 300) (So : bl_So sp ss so po sc) (Co : bl_Co kX vX L cc cs cy cb sc cl) (P : bl_Po cl pl pk pv) (V : bl_Vo cl sc sv pk pv) (hd : d ≤ st) (hw : 3001 * sc + s ≤ 3010 * st) (S : bl_St kX vX L sc cl (bl_x fc fs fb fd fv fe kp kv) (bl_y gt ph ge gk gv bp ok ov ob) d h xb s) (hs : bl_sc sc xs) (hr : r < 5) (ht : t < L r) : ∃ u' v' q, q < 3010 * (300 - st) + s + 1 ∧ bl_RR L q u' v' ∧ (∀ post : SX → Prop, post u' → wpX_enterToken post (dl, lr, lc, (nI st), (nI d), (nI cl), (nI sc), 0, (nI (48 * r + t)), xs, xb, xg, xe, kX, vX, df, pr, sp, pl, th, fc, fs, fb, fd, fv, fe, kp, kv, cc, cs, ss, sv, so)) ∧ (∀ post : SY → Prop, post v' → wpY_evaluate post ((nI sc), (nI cl), (nI h), xb, (nI st), 1, (nI (bl_yb r + t)), xs, yk, yv, yc, yt, rk, rv, kY, nY, en, ln, pr, sp, pk, pv, th, ss, po, so, cy, cb, cs, gt, ph, ge, gk, gv, bp, ok, ov, ob)) := by
  by_cases h3 : st = 300
  · exact bl_E_long C hcl hst So Co P V hd hw S hs hr ht h3
  · have h3 : st < 300 := by omega
    have tk := C.1.2.2 _ (bl_pX C.1 hr ht)
    rcases tk with (hk | hk | hk | hk | hk | hk | hk | hk | hk | hk) | ⟨(hk | hk | hk | hk | hk), _⟩ | ⟨(hk | hk | hk), _⟩ | ⟨hk, _⟩
    · exact bl_E_num C hcl hst So Co P V hd hw S hs hr ht h3 hk
    · exact bl_E_open C hcl hst So Co P V hd hw S hs hr ht h3 (by rw [hk]; decide)
    · exact bl_E_open C hcl hst So Co P V hd hw S hs hr ht h3 (by rw [hk]; decide)
    · exact bl_E_open C hcl hst So Co P V hd hw S hs hr ht h3 (by rw [hk]; decide)
    · exact bl_E_open C hcl hst So Co P V hd hw S hs hr ht h3 (by rw [hk]; decide)
    · exact bl_E_open C hcl hst So Co P V hd hw S hs hr ht h3 (by rw [hk]; decide)
    · exact bl_E_open C hcl hst So Co P V hd hw S hs hr ht h3 (by rw [hk]; decide)
    · exact bl_E_open C hcl hst So Co P V hd hw S hs hr ht h3 (by rw [hk]; decide)
    · exact bl_E_open C hcl hst So Co P V hd hw S hs hr ht h3 (by rw [hk]; decide)
    · exact bl_E_fail C hcl hst So Co P V hd hw S hs hr ht h3 hk
    · exact bl_E_var C hcl hst So Co P V hd hw S hs hr ht h3 hk
    · exact bl_E_open C hcl hst So Co P V hd hw S hs hr ht h3 (by rw [hk]; decide)
    · exact bl_E_open C hcl hst So Co P V hd hw S hs hr ht h3 (by rw [hk]; decide)
    · exact bl_E_fun C hcl hst So Co P V hd hw S hs hr ht h3 hk
    · exact bl_E_open C hcl hst So Co P V hd hw S hs hr ht h3 (by rw [hk]; decide)
    · exact bl_E_open C hcl hst So Co P V hd hw S hs hr ht h3 (by rw [hk]; decide)
    · exact bl_E_open C hcl hst So Co P V hd hw S hs hr ht h3 (by rw [hk]; decide)
    · exact bl_E_open C hcl hst So Co P V hd hw S hs hr ht h3 (by rw [hk]; decide)
    · exact bl_E_open C hcl hst So Co P V hd hw S hs hr ht h3 (by rw [hk]; decide)
theorem bl_TG (C : bl_Cf L dl kX vX df pr sp kY nY en ln) (hcl : cl ≤ st) (hst : st ≤ 300) (So : bl_So sp ss so po sc) (Co : bl_Co kX vX L cc cs cy cb sc cl) (P : bl_Po cl pl pk pv) (V : bl_Vo cl sc sv pk pv) (hd : d + 1 ≤ st) (hw : 3001 * sc + s ≤ 3010 * st) (S : bl_St kX vX L sc cl (bl_x fc fs fb fd fv fe kp kv) (bl_y gt ph ge gk gv bp ok ov ob) (d + 1) h xb s) (hg : bl_vg cl xg yk yv) : (∃ u' q, q < 3010 * (300 - st) + s ∧ bl_RR L q u' ((nI sc), (nI cl), (nI h), xb, (nI st), 0, ya, ys, yk, yv, yc, yt, rk, rv, kY, nY, en, ln, pr, sp, pk, pv, th, ss, po, so, cy, cb, cs, gt, ph, ge, gk, gv, bp, ok, ov, ob) ∧ (∀ post : SX → Prop, post u' → wpX_resumeFrame post (dl, lr, lc, (nI st), (nI (d + 1)), (nI cl), (nI sc), 1, xa, xs, xb, xg, 0, kX, vX, df, pr, sp, pl, th, fc, fs, fb, fd, fv, fe, kp, kv, cc, cs, ss, sv, so))) ∨ (∃ h', h = h' + 1 ∧ ∃ u' v' q, q < 3010 * (300 - st) + s ∧ bl_RR L q u' v' ∧ (∀ post : SX → Prop, post u' → wpX_resumeFrame post (dl, lr, lc, (nI st), (nI (d + 1)), (nI cl), (nI sc), 1, xa, xs, xb, xg, 0, kX, vX, df, pr, sp, pl, th, fc, fs, fb, fd, fv, fe, kp, kv, cc, cs, ss, sv, so)) ∧ (∀ post : SY → Prop, post v' → wpY_give post ((nI sc), (nI cl), (nI h), xb, (nI st), 0, ya, ys, yk, yv, yc, yt, rk, rv, kY, nY, en, ln, pr, sp, pk, pv, th, ss, po, so, cy, cb, cs, gt, ph, ge, gk, gv, bp, ok, ov, ob))) := by
  rcases S with ⟨s', rfl, hi, S⟩ | ⟨h', s', w, rfl, rfl, hl, S⟩
  · obtain ⟨r, t, hr, ht, hfc, hk, hfd, hkp, hfb⟩ := hi
    have S : bl_St kX vX L sc cl (bl_x fc fs fb fd fv fe kp kv) (bl_y gt ph ge gk gv bp ok ov ob) d h (fb d) s' := by rw [hfb]; exact S
    rcases hk with hk | hk | hk
    · exact Or.inl (bl_G_inert7 C hcl hst So Co P V hd hw S hg hr ht hfc hk hfd hkp hfb.symm)
    · exact Or.inl (bl_G_inert8 C hcl hst So Co P V hd hw S hg hr ht hfc hk hfd hkp hfb.symm)
    · exact Or.inl (bl_G_inert14 C hcl hst So Co P V hd hw S hg hr ht hfc hk hfd hkp hfb.symm)
  · obtain ⟨r, t, e, hr, ht, hfc, hgt, hge, hfs, hob, hfd, hwt, hb, hph⟩ := hl
    have S : bl_St kX vX L sc cl (bl_x fc fs fb fd fv fe kp kv) (bl_y gt ph ge gk gv bp ok ov ob) d h' (fb d) s' := S
    have tk := C.1.2.2 _ (bl_pX C.1 hr ht)
    have hxb : ¬ kX (48 * r + t) = 16 → xb = fb d := fun z => hb.trans (if_neg z)
    refine Or.inr ⟨h', rfl, ?_⟩
    rcases hph with ⟨rfl, hp, hk, hkp, hbp⟩ | ⟨rfl, hp, hk, hbd⟩ | ⟨rfl, hp, hk, hkp, hbp, hv⟩ | ⟨rfl, hp, hk, hbd⟩ | ⟨rfl, hp, hk, hkp, hbp, hfe, hv⟩ | ⟨rfl, hp, hk, hkp, hbp, he⟩
    · have e : w = 3009 := by rw [hwt]; simp [bl_wt]
      subst e
      rcases hk with hk | hk | hk | hk | hk | hk | hk | hk | hk | hk | hk | hk | hk | hk | hk
      · exact bl_G_set C hcl hst So Co P V hd hw S hg hr ht hfc hgt hge hfs hob hk hfd hp hkp hbp (hxb (by rw [hk]; decide))
      · exact bl_G_let C hcl hst So Co P V hd hw S hg hr ht hfc hgt hge hfs hob hk hfd hp hkp hbp (hxb (by rw [hk]; decide))
      · exact bl_G_keep5 C hcl hst So Co P V hd hw S hg hr ht hfc hgt hge hfs hob hk hfd hp hkp hbp (hxb (by rw [hk]; decide))
      · obtain ⟨k, hk4, ek⟩ := bl_tk4 tk (by rw [hk]; decide)
        obtain ⟨j, hj, ej⟩ := C.2.2.2.1 k hk4
        rcases C.2.2.1 k hk4 with ⟨f1, f2, f3⟩ | ⟨f1, f2, f3⟩
        · exact bl_G_miss C hcl hst So Co P V hd hw S hg hr ht hfc hgt hge hfs hob hk hfd hp hkp hbp (hxb (by rw [hk]; decide)) hk4 ek f1 f3
        · exact bl_G_named C hcl hst So Co P V hd hw S hg hr ht hfc hgt hge hfs hob hk hfd hp hkp hbp (hxb (by rw [hk]; decide)) hk4 ek hj ej f1 f3 f2
      · exact bl_G_seq C hcl hst So Co P V hd hw S hg hr ht hfc hgt hge hfs hob hk hfd hp hkp hbp (hxb (by rw [hk]; decide))
      · exact bl_G_if C hcl hst So Co P V hd hw S hg hr ht hfc hgt hge hfs hob hk hfd hp hkp hbp (hxb (by rw [hk]; decide))
      · exact bl_G_keep9 C hcl hst So Co P V hd hw S hg hr ht hfc hgt hge hfs hob hk hfd hp hkp hbp (hxb (by rw [hk]; decide))
      · exact bl_G_keep10 C hcl hst So Co P V hd hw S hg hr ht hfc hgt hge hfs hob hk hfd hp hkp hbp (hxb (by rw [hk]; decide))
      · exact bl_G_keep11 C hcl hst So Co P V hd hw S hg hr ht hfc hgt hge hfs hob hk hfd hp hkp hbp (hxb (by rw [hk]; decide))
      · exact bl_G_close12 C hcl hst So Co P V hd hw S hg hr ht hfc hgt hge hfs hob hk hfd hp (Or.inl ⟨hkp, hbp⟩)
      · exact bl_G_throw C hcl hst So Co P V hd hw S hg hr ht hfc hgt hge hfs hob hk hfd hp hkp hbp (hxb (by rw [hk]; decide))
      · exact bl_G_close14 C hcl hst So Co P V hd hw S hg hr ht hfc hgt hge hfs hob hk hfd hp (Or.inl ⟨hkp, hbp⟩)
      · exact bl_G_keep15 C hcl hst So Co P V hd hw S hg hr ht hfc hgt hge hfs hob hk hfd hp hkp hbp (hxb (by rw [hk]; decide))
      · exact bl_G_close16 C hcl hst So Co P V hd hw S hg hr ht hfc hgt hge hfs hob hk hfd hp (Or.inl ⟨hkp, hbp⟩)
      · exact bl_G_local C hcl hst So Co P V hd hw S hg hr ht hfc hgt hge hfs hob hk hfd hp hkp hbp (hxb (by rw [hk]; decide))
    · rcases hk with hk | hk
      · have e : w = 6 := by rw [hwt, hk]; decide
        subst e
        exact bl_G_close3 C hcl hst So Co P V hd hw S hg hr ht hfc hgt hge hfs hob hk hfd hp hbd
      · have e : w = 6 := by rw [hwt, hk]; decide
        subst e
        exact bl_G_close6 C hcl hst So Co P V hd hw S hg hr ht hfc hgt hge hfs hob hk hfd hp hbd
    · rcases hk with hk | hk | hk | hk
      · have e : w = 3007 := by rw [hwt, hk]; decide
        subst e
        rcases hv with ⟨v1, v2⟩ | ⟨v1, n, v2, v3, v4⟩
        · exact bl_G_type C hcl hst So Co P V hd hw S hg hr ht hfc hgt hge hfs hob hk hfd hp hkp hbp (hxb (by rw [hk]; decide)) v1 v2
        · exact bl_G_call C hcl hst So Co P V hd hw S hg hr ht hfc hgt hge hfs hob hk hfd hp hkp hbp (hxb (by rw [hk]; decide)) v2 v1 v3 v4
      · have e : w = 6 := by rw [hwt, hk]; decide
        subst e
        exact bl_G_sum9 C hcl hst So Co P V hd hw S hg hr ht hfc hgt hge hfs hob hk hfd hp hkp hbp (hxb (by rw [hk]; decide)) hv
      · have e : w = 6 := by rw [hwt, hk]; decide
        subst e
        exact bl_G_sum10 C hcl hst So Co P V hd hw S hg hr ht hfc hgt hge hfs hob hk hfd hp hkp hbp (hxb (by rw [hk]; decide)) hv
      · have e : w = 6 := by rw [hwt, hk]; decide
        subst e
        exact bl_G_sum11 C hcl hst So Co P V hd hw S hg hr ht hfc hgt hge hfs hob hk hfd hp hkp hbp (hxb (by rw [hk]; decide)) hv
    · have e : w = 4 := by rw [hwt, hk]; decide
      subst e
      exact bl_G_close5 C hcl hst So Co P V hd hw S hg hr ht hfc hgt hge hfs hob hk hfd hp hbd
    · have e : w = 6 := by rw [hwt, hk]; decide
      subst e
      exact bl_G_prot C hcl hst So Co P V hd hw S hg hr ht hfc hgt hge hfs hob hk hfd hp hkp hbp (hxb (by rw [hk]; decide)) hfe hv
    · have e : w = 6 := by rw [hwt, hk]; decide
      subst e
      exact bl_G_pend C hcl hst So Co P V hd hw S hg hr ht hfc hgt hge hfs hob hk hfd hp hkp hbp (hxb (by rw [hk]; decide)) he
theorem bl_ph_bd {P : Nat → Prop} {k : Int32} {fv kv : Int64} {fe kp ph gk gv bp ok ov : Int32} (h : bl_ph cl P k e fv fe kp kv ph gk gv bp ok ov) : bl_bd cl kp kv bp ok ov ∧ e ≤ 2 ∧ (nI e = 0 ↔ ph = 0) ∧ (k = 12 ∨ k = 14 ∨ (k = 15 ∧ nI e = 0) → e = 0 ∧ ph = 0 ∧ kp = -1 ∧ bp = -1) := by
  rcases h with ⟨rfl, hp, hk, hkp, hbp⟩ | ⟨rfl, hp, hk, hbd⟩ | ⟨rfl, hp, hk, hkp, hbp, hv⟩ | ⟨rfl, hp, hk, hbd⟩ | ⟨rfl, hp, hk, hkp, hbp, hfe, hv⟩ | ⟨rfl, hp, hk, hkp, hbp, he⟩
  · exact ⟨Or.inl ⟨hkp, hbp⟩, by omega, ⟨fun _ => hp, fun _ => rfl⟩, fun _ => ⟨rfl, hp, hkp, hbp⟩⟩
  · refine ⟨hbd, by omega, ⟨fun z => absurd z (by decide), fun z => absurd (hp.symm.trans z) (by decide)⟩, ?_⟩
    rcases hk with rfl | rfl <;> intro z <;> exact absurd z (by decide)
  · refine ⟨Or.inl ⟨hkp, hbp⟩, by omega, ⟨fun z => absurd z (by decide), fun z => absurd (hp.symm.trans z) (by decide)⟩, ?_⟩
    rcases hk with rfl | rfl | rfl | rfl <;> intro z <;> exact absurd z (by decide)
  · refine ⟨hbd, by omega, ⟨fun z => absurd z (by decide), fun z => absurd (hp.symm.trans z) (by decide)⟩, ?_⟩
    subst hk; intro z; exact absurd z (by decide)
  · refine ⟨Or.inl ⟨hkp, hbp⟩, by omega, ⟨fun z => absurd z (by decide), fun z => absurd (hp.symm.trans z) (by decide)⟩, ?_⟩
    subst hk; intro z; exact absurd z (by decide)
  · refine ⟨Or.inl ⟨hkp, hbp⟩, by omega, ⟨fun z => absurd z (by decide), fun z => absurd (hp.symm.trans z) (by decide)⟩, ?_⟩
    subst hk; intro z; exact absurd z (by decide)
theorem bl_TN (C : bl_Cf L dl kX vX df pr sp kY nY en ln) (hcl : cl ≤ st) (hst : st ≤ 300) (So : bl_So sp ss so po sc) (Co : bl_Co kX vX L cc cs cy cb sc cl) (P : bl_Po cl pl pk pv) (V : bl_Vo cl sc sv pk pv) (hd : d + 1 ≤ st) (hw : 3001 * sc + s ≤ 3010 * st) (S : bl_Sq kX vX L sc cl (bl_x fc fs fb fd fv fe kp kv) (bl_y gt ph ge gk gv bp ok ov ob) (d + 1) h xb s) (hen : bl_er cl (bl_hc kX vX (bl_x fc fs fb fd fv fe kp kv) (d + 1)) xe xg yt yc yk yv) : (∃ u' q, q < 3010 * (300 - st) + s ∧ bl_RR L q u' ((nI sc), (nI cl), (nI h), xb, (nI st), 2, ya, ys, yk, yv, yc, yt, rk, rv, kY, nY, en, ln, pr, sp, pk, pv, th, ss, po, so, cy, cb, cs, gt, ph, ge, gk, gv, bp, ok, ov, ob) ∧ (∀ post : SX → Prop, post u' → wpX_unwindFrame post (dl, lr, lc, (nI st), (nI (d + 1)), (nI cl), (nI sc), 2, xa, xs, xb, xg, xe, kX, vX, df, pr, sp, pl, th, fc, fs, fb, fd, fv, fe, kp, kv, cc, cs, ss, sv, so))) ∨ (∃ h', h = h' + 1 ∧ ∃ u' v' q, q < 3010 * (300 - st) + s ∧ bl_RR L q u' v' ∧ (∀ post : SX → Prop, post u' → wpX_unwindFrame post (dl, lr, lc, (nI st), (nI (d + 1)), (nI cl), (nI sc), 2, xa, xs, xb, xg, xe, kX, vX, df, pr, sp, pl, th, fc, fs, fb, fd, fv, fe, kp, kv, cc, cs, ss, sv, so)) ∧ (∀ post : SY → Prop, post v' → wpY_end post ((nI sc), (nI cl), (nI h), xb, (nI st), 2, ya, ys, yk, yv, yc, yt, rk, rv, kY, nY, en, ln, pr, sp, pk, pv, th, ss, po, so, cy, cb, cs, gt, ph, ge, gk, gv, bp, ok, ov, ob))) := by
  rcases S with S | ⟨d', s', ed, rfl, htr, S⟩
  · rcases S with ⟨s', rfl, hi, S⟩ | ⟨h', s', w, rfl, rfl, hl, S⟩
    · obtain ⟨r, t, hr, ht, hfc, hk, hfd, hkp, hfb⟩ := hi
      have S : bl_St kX vX L sc cl (bl_x fc fs fb fd fv fe kp kv) (bl_y gt ph ge gk gv bp ok ov ob) d h (fb d) s' := by rw [hfb]; exact S
      exact Or.inl (bl_N_inert C hcl hst So Co P V hd hw S hen hr ht hfc hk hfd hkp hfb.symm)
    · obtain ⟨r, t, e, hr, ht, hfc, hgt, hge, hfs, hob, hfd, hwt, hb, hph⟩ := hl
      have S : bl_St kX vX L sc cl (bl_x fc fs fb fd fv fe kp kv) (bl_y gt ph ge gk gv bp ok ov ob) d h' (fb d) s' := S
      have hxb : ¬ kX (48 * r + t) = 16 → xb = fb d := fun z => hb.trans (if_neg z)
      obtain ⟨hbd, he2, hz, h0⟩ := bl_ph_bd hph
      refine Or.inr ⟨h', rfl, ?_⟩
      by_cases c12 : kX (48 * r + t) = 12 ∧ xe = 16 + vX (48 * r + t)
      · obtain ⟨rfl, hp, hkp, hbp⟩ := h0 (Or.inl c12.1)
        have e : w = 3009 := by rw [hwt]; simp [bl_wt]
        subst e
        exact bl_N_catch C hcl hst So Co P V hd hw S hen hr ht hfc hgt hge hfs hob c12.1 hfd hp hkp hbp (hxb (by rw [c12.1]; decide)) c12.2
      by_cases c14 : kX (48 * r + t) = 14 ∧ ¬ 16 ≤ xe
      · obtain ⟨rfl, hp, hkp, hbp⟩ := h0 (Or.inr (Or.inl c14.1))
        have e : w = 3009 := by rw [hwt]; simp [bl_wt]
        subst e
        exact bl_N_try C hcl hst So Co P V hd hw S hen hr ht hfc hgt hge hfs hob c14.1 hfd hp hkp hbp (hxb (by rw [c14.1]; decide)) c14.2
      by_cases c15 : kX (48 * r + t) = 15 ∧ nI e = 0
      · obtain ⟨rfl, hp, hkp, hbp⟩ := h0 (Or.inr (Or.inr c15))
        have e : w = 3009 := by rw [hwt]; simp [bl_wt]
        subst e
        exact bl_N_prot C hcl hst So Co P V hd hw S hen hr ht hfc hgt hge hfs hob c15.1 hfd hp hkp hbp (hxb (by rw [c15.1]; decide))
      · refine bl_N_close C hcl hst So Co P V hd hw S hen hr ht hfc hgt hge hfs hob ?_ hbd (by rw [hfd]; exact hz) (fun k z => c12 ⟨k, z⟩) (fun k _ => Classical.byContradiction (fun z => c14 ⟨k, z⟩)) (fun k z => c15 ⟨k, hfd.symm.trans z⟩)
        rw [hwt]; unfold bl_wt; omega
  · have ed : d' = d := by omega
    subst ed
    obtain ⟨r, t, hr, ht, hfc, hk, hkp, hfb⟩ := htr
    have S : bl_St kX vX L sc cl (bl_x fc fs fb fd fv fe kp kv) (bl_y gt ph ge gk gv bp ok ov ob) d' h (fb d') s' := by rw [hfb]; exact S
    exact Or.inl (bl_N_trans C hcl hst So Co P V hd hw S hen hr ht hfc hk hkp hfb.symm)
end
