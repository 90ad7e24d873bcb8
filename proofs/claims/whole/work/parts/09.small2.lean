/-! the other small methods -/
theorem bl_ix (x : Int32) {n : Nat} (hn : n < 2 ^ 31) : x < 0 ∨ (¬ x < 0 ∧ nI n ≤ x) ∨ ∃ j : Nat, j < n ∧ x = nI j := by
  by_cases h : x < 0
  · exact Or.inl h
  · rcases pk_ix x hn with g | g | g
    · exact absurd g h
    · exact Or.inr (Or.inl ⟨h, g⟩)
    · exact Or.inr (Or.inr g)
theorem bl_shown {x : Int64} {k v : Int32} (h : bl_vr 0 x k v) : (k = 0 ∧ x = v.toInt64) ∨ (¬ k = 0 ∧ x = 10000000000) := by
  rcases h with h | ⟨_, n, hn, _⟩ | ⟨h, g⟩
  · exact Or.inl h
  · omega
  · exact Or.inr ⟨by rw [h]; decide, g⟩
theorem bl_lpX {b j : Nat} : (nI b + 1) * 8 + nI j = nI (8 * (b + 1) + j) := by
  rw [nI_1, show (8 : Int32) = nI 8 from rfl, pk_mul, nI_add, Nat.mul_comm]
theorem bl_lpY {b j : Nat} : 8 + 8 * nI b + nI j = nI (8 * (b + 1) + j) := by
  rw [show (8 : Int32) = nI 8 from rfl, pk_mul, nI_add, nI_add]
  exact congrArg nI (by omega)
section
variable {dl lc xst xd xcl xsc xm xa xs xb xe yen ycl yw ym ya ys yk yv yc yt rk rv : Int32}
variable {lr xg : Int64}
variable {kX vX df pr sp th fc fs fb fd fe kp cc cs ss so kY nY en ln pk pv po cy cb gt ph ge gk gv bp ok ov ob : Nat → Int32}
variable {pl fv kv sv : Nat → Int64}
variable {yb : Int32} {L : Nat → Nat}
theorem bl_hl (b s : Int32) : ∃ r : Int32, (r = 0 ∨ (r = 1 ∧ ∃ i j, i < 3 ∧ j < 8 ∧ b = nI i ∧ s = nI j)) ∧ (∀ post : Int32 → Prop, post r → wpX_hasLocal post (dl, lr, lc, xst, xd, xcl, xsc, xm, xa, xs, xb, xg, xe, kX, vX, df, pr, sp, pl, th, fc, fs, fb, fd, fv, fe, kp, kv, cc, cs, ss, sv, so) b s) ∧ (∀ post : Int32 → Prop, post r → wpY_isLocal post (yen, ycl, yw, yb, xst, ym, ya, ys, yk, yv, yc, yt, rk, rv, kY, nY, en, ln, pr, sp, pk, pv, th, ss, po, so, cy, cb, cs, gt, ph, ge, gk, gv, bp, ok, ov, ob) b s) := by
  rcases bl_ix b (n := 3) (by decide) with h | ⟨h, g⟩ | ⟨i, hi, rfl⟩
  · exact ⟨0, Or.inl rfl, fun post hp => br_t h hp, fun post hp => br_t h (br_t rfl hp)⟩
  · exact ⟨0, Or.inl rfl, fun post hp => br_f h (br_t g hp), fun post hp => br_f h (br_t g (br_t rfl hp))⟩
  · have a1 : ¬ nI i < 0 := nI_pos (by omega)
    have a2 : ¬ nI 3 ≤ nI i := nI_ge hi (by decide)
    rcases bl_ix s (n := 8) (by decide) with h | ⟨h, g⟩ | ⟨j, hj, rfl⟩
    · exact ⟨0, Or.inl rfl, fun post hp => br_f a1 (br_f a2 (br_t h (br_t rfl hp))), fun post hp => br_f a1 (br_f a2 (br_f (by decide) (br_t h (br_t rfl hp))))⟩
    · exact ⟨0, Or.inl rfl, fun post hp => br_f a1 (br_f a2 (br_f h (br_t g (br_t rfl hp)))), fun post hp => br_f a1 (br_f a2 (br_f (by decide) (br_f h (br_t g (br_t rfl hp)))))⟩
    · have a3 : ¬ nI j < 0 := nI_pos (by omega)
      have a4 : ¬ nI 8 ≤ nI j := nI_ge hj (by decide)
      have a5 : vp_in (nI (8 * (i + 1) + j)) 32 := vp_in_nI (by omega) (by decide)
      have a6 : (nI (8 * (i + 1) + j)).toNatClampNeg = 8 * (i + 1) + j := nI_clamp (by omega)
      have gX : ∀ (r : Int32) (post : Int32 → Prop), (((th (8 * (i + 1) + j)) = 0 → (post 0)) ∧ (¬ (th (8 * (i + 1) + j)) = 0 → (post 1))) → wpX_hasLocal post (dl, lr, lc, xst, xd, xcl, xsc, xm, xa, xs, xb, xg, xe, kX, vX, df, pr, sp, pl, th, fc, fs, fb, fd, fv, fe, kp, kv, cc, cs, ss, sv, so) (nI i) (nI j) := by
        intro r post hp
        refine br_f a1 (br_f a2 (br_f a3 (br_f a4 (br_f (by decide) ?_))))
        show vp_in ((nI i + 1) * 8 + nI j) 32 ∧ _
        rw [bl_lpX, a6]
        exact ⟨a5, hp⟩
      have gY : ∀ (r : Int32) (post : Int32 → Prop), (((th (8 * (i + 1) + j)) = 0 → (post 0)) ∧ (¬ (th (8 * (i + 1) + j)) = 0 → (post 1))) → wpY_isLocal post (yen, ycl, yw, yb, xst, ym, ya, ys, yk, yv, yc, yt, rk, rv, kY, nY, en, ln, pr, sp, pk, pv, th, ss, po, so, cy, cb, cs, gt, ph, ge, gk, gv, bp, ok, ov, ob) (nI i) (nI j) := by
        intro r post hp
        refine br_f a1 (br_f a2 (br_f (by decide) (br_f a3 (br_f a4 (br_f (by decide) ?_)))))
        rw [bl_lpY, a6]
        exact ⟨a5, hp⟩
      by_cases c : th (8 * (i + 1) + j) = 0
      · exact ⟨0, Or.inl rfl, fun post hp => gX 0 post (br_t c hp), fun post hp => gY 0 post (br_t c hp)⟩
      · exact ⟨1, Or.inr ⟨rfl, i, j, hi, hj, rfl, rfl⟩, fun post hp => gX 0 post (br_f c hp), fun post hp => gY 0 post (br_f c hp)⟩
theorem bl_x_fp {post : SX → Prop} (hp : post (dl, lr, lc, xst, xd, xcl, xsc, xm, xa, xs, xb, xg, xe, kX, vX, df, pr, sp, (fun i => if i < 32 then 10000000000 else pl i), (fun i => if i < 32 then 0 else th i), fc, fs, fb, fd, fv, fe, kp, kv, cc, cs, ss, sv, so)) : wpX_forgetPlaces post (dl, lr, lc, xst, xd, xcl, xsc, xm, xa, xs, xb, xg, xe, kX, vX, df, pr, sp, pl, th, fc, fs, fb, fd, fv, fe, kp, kv, cc, cs, ss, sv, so) := by
  have key : ∀ n l, l ≤ 32 → 32 - l < n → wX_forgetPlaces_2 post dl lr lc xst xd xcl xsc xm xa xs xb xg xe n (nI l) kX vX df pr sp (fun i => if i < l then 10000000000 else pl i) (fun i => if i < l then 0 else th i) fc fs fb fd fv fe kp kv cc cs ss sv so := by
    intro n
    induction n with
    | zero => intro l _ h; omega
    | succ n ih =>
      intro l h1 h2
      by_cases c : l = 32
      · subst c
        exact br_t (by decide) hp
      · refine br_f (nI_ge (b := 32) (by omega) (by decide)) ⟨vp_in_nI (by omega) (by decide), nm_r (e' := (fun i => if i < l + 1 then 10000000000 else pl i)) ?_ ⟨vp_in_nI (by omega) (by decide), nm_r (e' := (fun i => if i < l + 1 then 0 else th i)) ?_ (nm_r (nI_1 l) (ih (l + 1) (by omega) (by omega)))⟩⟩
        · rw [nI_clamp (by omega)]; exact bl_fillL pl _ l
        · rw [nI_clamp (by omega), bl_nb0]; exact bl_fill th _ l
  have := key 33 0 (by omega) (by omega)
  rw [bl_fill0, bl_fill0] at this
  exact ⟨33, this⟩
theorem bl_x_df {post : Int32 → SX → Prop} (hp : post 1 (dl, lr, lc, xst, xd, xcl, xsc, xm, xa, xs, xb, xg, xe, kX, vX, (fun i => if i < 4 then 0 else df i), pr, sp, pl, th, fc, fs, fb, fd, fv, fe, kp, kv, cc, cs, ss, sv, so)) : ∃ n, wX_special_22 post dl lr lc xst xd xcl xsc xm xa xs xb xg xe n 0 kX vX df pr sp pl th fc fs fb fd fv fe kp kv cc cs ss sv so := by
  have key : ∀ n l, l ≤ 4 → 4 - l < n → wX_special_22 post dl lr lc xst xd xcl xsc xm xa xs xb xg xe n (nI l) kX vX (fun i => if i < l then 0 else df i) pr sp pl th fc fs fb fd fv fe kp kv cc cs ss sv so := by
    intro n
    induction n with
    | zero => intro l _ h; omega
    | succ n ih =>
      intro l h1 h2
      by_cases c : l = 4
      · subst c
        exact br_t (by decide) hp
      · refine br_f (nI_ge (b := 4) (by omega) (by decide)) ⟨vp_in_nI (by omega) (by decide), nm_r (e' := (fun i => if i < l + 1 then 0 else df i)) ?_ (nm_r (nI_1 l) (ih (l + 1) (by omega) (by omega)))⟩
        rw [nI_clamp (by omega), bl_nb0]; exact bl_fill df _ l
  have := key 5 0 (by omega) (by omega)
  rw [bl_fill0] at this
  exact ⟨5, this⟩
theorem bl_y_sp {post : Int32 → SY → Prop} (hp : post 1 (yen, ycl, yw, yb, xst, ym, ya, ys, yk, yv, yc, yt, rk, rv, kY, nY, en, (fun i => if i < 4 then 0 else ln i), pr, sp, (fun i => if i < 32 then 2 else pk i), pv, (fun i => if i < 32 then 0 else th i), ss, po, so, cy, cb, cs, gt, ph, ge, gk, gv, bp, ok, ov, ob)) : ∃ n, wY_special_20 post yen ycl yw yb xst ym ya ys yk yv yc yt rk rv n 0 kY nY en ln pr sp pk pv th ss po so cy cb cs gt ph ge gk gv bp ok ov ob := by
  have k2 : ∀ n l, l ≤ 32 → 32 - l < n → wY_special_40 post yen ycl yw yb xst ym ya ys yk yv yc yt rk rv n (nI l) kY nY en (fun i => if i < 4 then 0 else ln i) pr sp (fun i => if i < l then 2 else pk i) pv (fun i => if i < l then 0 else th i) ss po so cy cb cs gt ph ge gk gv bp ok ov ob := by
    intro n
    induction n with
    | zero => intro l _ h; omega
    | succ n ih =>
      intro l h1 h2
      by_cases c : l = 32
      · subst c
        exact br_t (by decide) hp
      · refine br_f (nI_ge (b := 32) (by omega) (by decide)) ⟨vp_in_nI (by omega) (by decide), nm_r (e' := (fun i => if i < l + 1 then 2 else pk i)) ?_ ⟨vp_in_nI (by omega) (by decide), nm_r (e' := (fun i => if i < l + 1 then 0 else th i)) ?_ (nm_r (nI_1 l) (ih (l + 1) (by omega) (by omega)))⟩⟩
        · rw [nI_clamp (by omega)]; exact bl_fill pk _ l
        · rw [nI_clamp (by omega), bl_nb0]; exact bl_fill th _ l
  have k3 : ∃ n, wY_special_40 post yen ycl yw yb xst ym ya ys yk yv yc yt rk rv n 0 kY nY en (fun i => if i < 4 then 0 else ln i) pr sp pk pv th ss po so cy cb cs gt ph ge gk gv bp ok ov ob := by
    have := k2 33 0 (by omega) (by omega)
    rw [bl_fill0, bl_fill0] at this
    exact ⟨33, this⟩
  have key : ∀ n l, l ≤ 4 → 4 - l < n → wY_special_20 post yen ycl yw yb xst ym ya ys yk yv yc yt rk rv n (nI l) kY nY en (fun i => if i < l then 0 else ln i) pr sp pk pv th ss po so cy cb cs gt ph ge gk gv bp ok ov ob := by
    intro n
    induction n with
    | zero => intro l _ h; omega
    | succ n ih =>
      intro l h1 h2
      by_cases c : l = 4
      · subst c
        exact br_t (by decide) k3
      · refine br_f (nI_ge (b := 4) (by omega) (by decide)) ⟨vp_in_nI (by omega) (by decide), nm_r (e' := (fun i => if i < l + 1 then 0 else ln i)) ?_ (nm_r (nI_1 l) (ih (l + 1) (by omega) (by omega)))⟩
        rw [nI_clamp (by omega)]; exact bl_fill ln _ l
  have := key 5 0 (by omega) (by omega)
  rw [bl_fill0] at this
  exact ⟨5, this⟩
theorem bl_y_in {post : SY → Prop} (hp : post (yen, ycl, yw, yb, xst, ym, ya, ys, yk, yv, yc, yt, rk, rv, kY, nY, en, ln, pr, sp, (fun i => if i < 32 then 2 else pk i), pv, th, ss, po, so, cy, cb, cs, gt, ph, ge, gk, gv, bp, ok, ov, ob)) : ∃ n, wY_init_221 post yen ycl yw yb xst ym ya ys yk yv yc yt rk rv n 0 kY nY en ln pr sp pk pv th ss po so cy cb cs gt ph ge gk gv bp ok ov ob := by
  have key : ∀ n l, l ≤ 32 → 32 - l < n → wY_init_221 post yen ycl yw yb xst ym ya ys yk yv yc yt rk rv n (nI l) kY nY en ln pr sp (fun i => if i < l then 2 else pk i) pv th ss po so cy cb cs gt ph ge gk gv bp ok ov ob := by
    intro n
    induction n with
    | zero => intro l _ h; omega
    | succ n ih =>
      intro l h1 h2
      by_cases c : l = 32
      · subst c
        exact br_t (by decide) hp
      · refine br_f (nI_ge (b := 32) (by omega) (by decide)) ⟨vp_in_nI (by omega) (by decide), nm_r (e' := (fun i => if i < l + 1 then 2 else pk i)) ?_ (nm_r (nI_1 l) (ih (l + 1) (by omega) (by omega)))⟩
        rw [nI_clamp (by omega)]; exact bl_fill pk _ l
  have := key 33 0 (by omega) (by omega)
  rw [bl_fill0] at this
  exact ⟨33, this⟩
end
theorem i_vc0 : wpX_init (fun u => wpY_init (fun v => i_Rel 0 u v)) := by
  refine bl_x_fp (bl_y_in ⟨⟨rfl, rfl, ?_, rfl, rfl, rfl, rfl⟩, fun _ => 0, rfl, rfl, ⟨fun _ _ => Nat.zero_le _, fun _ _ _ _ => ⟨rfl, rfl⟩, fun _ _ => Or.inl (Or.inl rfl)⟩, fun r _ _ h => absurd h (Nat.lt_irrefl 0), ⟨fun k _ => Or.inl ⟨rfl, rfl, rfl⟩, fun k _ => ⟨0, by omega, rfl⟩⟩, fun i hi => ?_, Or.inr (Or.inr ⟨rfl, rfl, rfl⟩)⟩)
  · funext i
    by_cases c : i < 32
    · rw [if_pos c]
    · rw [if_neg c]
  · refine Or.inr (Or.inr ⟨?_, ?_⟩)
    · exact if_pos hi
    · exact if_pos hi
theorem i_vc_global {k : Nat} {u : SX} {v : SY} (I : i_Rel k u v) (hk : k + 3 ≤ 1536) (v1 : Int32) : wpX_global (fun r => wpY_global (fun r' => r' = r ∧ i_Rel (k + 3) u v) v v1) u v1 := by
  obtain ⟨dl, lr, lc, xst, xd, xcl, xsc, xm, xa, xs, xb, xg, xe, kX, vX, df, pr, sp, pl, th, fc, fs, fb, fd, fv, fe, kp, kv, cc, cs, ss, sv, so⟩ := u
  obtain ⟨yen, ycl, yw, xb', xst', ym, ya, ys, yk, yv, yc, yt, rk, rv, kY, nY, en, ln, pr', sp', pk, pv, th', ss', po, so', cy, cb, cs', gt, ph, ge, gk, gv, bp, ok, ov, ob⟩ := v
  obtain ⟨⟨rfl, rfl, rfl, rfl, rfl, rfl, rfl⟩, L, B⟩ := I
  have J := B
  obtain ⟨b1, b2, b3, b4, b5, b6, b7⟩ := B
  rcases bl_ix v1 (n := 8) (by decide) with h | ⟨h, g⟩ | ⟨j, hj, rfl⟩
  · exact br_t h (br_t rfl (br_t h (br_t rfl ⟨rfl, ⟨⟨rfl, rfl, rfl, rfl, rfl, rfl, rfl⟩, L, J⟩⟩)))
  · exact br_f h (br_t g (br_t rfl (br_f h (br_t g (br_t rfl ⟨rfl, ⟨⟨rfl, rfl, rfl, rfl, rfl, rfl, rfl⟩, L, J⟩⟩)))))
  · have a1 : ¬ nI j < 0 := nI_pos (by omega)
    have a2 : ¬ nI 8 ≤ nI j := nI_ge hj (by decide)
    have a3 : vp_in (nI j) 340 := vp_in_nI (by omega) (by decide)
    refine br_f a1 (br_f a2 (br_f (by decide) ⟨vp_in_nI (by omega) (by decide), br_f a1 (br_f a2 (br_f (by decide) ⟨a3, ?_⟩))⟩))
    rw [nI_clamp (by omega)]
    rcases bl_shown (b6 j (by omega)) with ⟨c, e⟩ | ⟨c, e⟩
    · exact br_t c ⟨a3, e.symm, ⟨⟨rfl, rfl, rfl, rfl, rfl, rfl, rfl⟩, L, J⟩⟩
    · exact br_f c ⟨e.symm, ⟨⟨rfl, rfl, rfl, rfl, rfl, rfl, rfl⟩, L, J⟩⟩
theorem i_vc_isLocal {k : Nat} {u : SX} {v : SY} (I : i_Rel k u v) (hk : k + 3 ≤ 1536) (v1 : Int32) (v2 : Int32) : wpX_isLocal (fun r => wpY_isLocal (fun r' => r' = r ∧ i_Rel (k + 3) u v) v v1 v2) u v1 v2 := by
  obtain ⟨dl, lr, lc, xst, xd, xcl, xsc, xm, xa, xs, xb, xg, xe, kX, vX, df, pr, sp, pl, th, fc, fs, fb, fd, fv, fe, kp, kv, cc, cs, ss, sv, so⟩ := u
  obtain ⟨yen, ycl, yw, xb', xst', ym, ya, ys, yk, yv, yc, yt, rk, rv, kY, nY, en, ln, pr', sp', pk, pv, th', ss', po, so', cy, cb, cs', gt, ph, ge, gk, gv, bp, ok, ov, ob⟩ := v
  obtain ⟨⟨rfl, rfl, rfl, rfl, rfl, rfl, rfl⟩, L, B⟩ := I
  obtain ⟨r, hr, hX, hY⟩ := bl_hl (dl := dl) (lr := lr) (lc := lc) (xst := xst') (xd := xd) (xcl := xcl) (xsc := xsc) (xm := xm) (xa := xa) (xs := xs) (xb := xb) (xg := xg) (xe := xe) (kX := kX) (vX := vX) (df := df) (pr := pr') (sp := sp') (pl := pl) (th := th') (fc := fc) (fs := fs) (fb := fb) (fd := fd) (fv := fv) (fe := fe) (kp := kp) (kv := kv) (cc := cc) (cs := cs') (ss := ss') (sv := sv) (so := so') (yen := yen) (ycl := ycl) (yw := yw) (ym := ym) (ya := ya) (ys := ys) (yk := yk) (yv := yv) (yc := yc) (yt := yt) (rk := rk) (rv := rv) (kY := kY) (nY := nY) (en := en) (ln := ln) (pk := pk) (pv := pv) (po := po) (cy := cy) (cb := cb) (gt := gt) (ph := ph) (ge := ge) (gk := gk) (gv := gv) (bp := bp) (ok := ok) (ov := ov) (ob := ob) (yb := xb') v1 v2
  unfold wpX_isLocal
  refine hX _ ?_
  refine ⟨?_, hY _ ⟨rfl, ⟨⟨rfl, rfl, rfl, rfl, rfl, rfl, rfl⟩, L, B⟩⟩⟩
  rcases hr with rfl | ⟨rfl, _⟩ <;> rfl
theorem i_vc_local {k : Nat} {u : SX} {v : SY} (I : i_Rel k u v) (hk : k + 3 ≤ 1536) (v1 : Int32) (v2 : Int32) : wpX_local (fun r => wpY_local (fun r' => r' = r ∧ i_Rel (k + 3) u v) v v1 v2) u v1 v2 := by
  obtain ⟨dl, lr, lc, xst, xd, xcl, xsc, xm, xa, xs, xb, xg, xe, kX, vX, df, pr, sp, pl, th, fc, fs, fb, fd, fv, fe, kp, kv, cc, cs, ss, sv, so⟩ := u
  obtain ⟨yen, ycl, yw, xb', xst', ym, ya, ys, yk, yv, yc, yt, rk, rv, kY, nY, en, ln, pr', sp', pk, pv, th', ss', po, so', cy, cb, cs', gt, ph, ge, gk, gv, bp, ok, ov, ob⟩ := v
  obtain ⟨⟨rfl, rfl, rfl, rfl, rfl, rfl, rfl⟩, L, B⟩ := I
  have J := B
  obtain ⟨b1, b2, b3, b4, b5, b6, b7⟩ := B
  obtain ⟨r, hr, hX, hY⟩ := bl_hl (dl := dl) (lr := lr) (lc := lc) (xst := xst') (xd := xd) (xcl := xcl) (xsc := xsc) (xm := xm) (xa := xa) (xs := xs) (xb := xb) (xg := xg) (xe := xe) (kX := kX) (vX := vX) (df := df) (pr := pr') (sp := sp') (pl := pl) (th := th') (fc := fc) (fs := fs) (fb := fb) (fd := fd) (fv := fv) (fe := fe) (kp := kp) (kv := kv) (cc := cc) (cs := cs') (ss := ss') (sv := sv) (so := so') (yen := yen) (ycl := ycl) (yw := yw) (ym := ym) (ya := ya) (ys := ys) (yk := yk) (yv := yv) (yc := yc) (yt := yt) (rk := rk) (rv := rv) (kY := kY) (nY := nY) (en := en) (ln := ln) (pk := pk) (pv := pv) (po := po) (cy := cy) (cb := cb) (gt := gt) (ph := ph) (ge := ge) (gk := gk) (gv := gv) (bp := bp) (ok := ok) (ov := ov) (ob := ob) (yb := xb') v1 v2
  unfold wpX_local wpY_local
  rcases hr with rfl | ⟨rfl, i, j, hi, hj, rfl, rfl⟩
  · refine hX _ ?_
    refine br_t rfl ?_
    refine hY _ ?_
    exact br_t rfl ⟨rfl, ⟨⟨rfl, rfl, rfl, rfl, rfl, rfl, rfl⟩, L, J⟩⟩
  · have a3 : vp_in (nI (8 * (i + 1) + j)) 340 := vp_in_nI (by omega) (by decide)
    refine hX _ ?_
    refine br_f (by decide) ?_
    show vp_in ((nI i + 1) * 8 + nI j) 32 ∧ _
    rw [bl_lpX, nI_clamp (by omega)]
    refine ⟨vp_in_nI (by omega) (by decide), ?_⟩
    refine hY _ ?_
    refine br_f (by decide) ?_
    rw [bl_lpY]
    refine ⟨a3, ?_⟩
    rw [nI_clamp (by omega)]
    rcases bl_shown (b6 (8 * (i + 1) + j) (by omega)) with ⟨c, e⟩ | ⟨c, e⟩
    · exact br_t c ⟨a3, e.symm, ⟨⟨rfl, rfl, rfl, rfl, rfl, rfl, rfl⟩, L, J⟩⟩
    · exact br_f c ⟨e.symm, ⟨⟨rfl, rfl, rfl, rfl, rfl, rfl, rfl⟩, L, J⟩⟩
theorem i_vc_set {k : Nat} {u : SX} {v : SY} (I : i_Rel k u v) (hk : k + 3 ≤ 1536) (v1 : Int32) (v2 : Int32) : wpX_set (fun r u' => wpY_set (fun r' v' => r' = r ∧ i_Rel (k + 3) u' v') v v1 v2) u v1 v2 := by
  obtain ⟨dl, lr, lc, xst, xd, xcl, xsc, xm, xa, xs, xb, xg, xe, kX, vX, df, pr, sp, pl, th, fc, fs, fb, fd, fv, fe, kp, kv, cc, cs, ss, sv, so⟩ := u
  obtain ⟨yen, ycl, yw, xb', xst', ym, ya, ys, yk, yv, yc, yt, rk, rv, kY, nY, en, ln, pr', sp', pk, pv, th', ss', po, so', cy, cb, cs', gt, ph, ge, gk, gv, bp, ok, ov, ob⟩ := v
  obtain ⟨⟨rfl, rfl, rfl, rfl, rfl, rfl, rfl⟩, L, B⟩ := I
  have J := B
  obtain ⟨b1, b2, b3, b4, b5, b6, b7⟩ := B
  rcases bl_ix v1 (n := 8) (by decide) with h | ⟨h, g⟩ | ⟨j, hj, rfl⟩
  · exact br_t h (br_t rfl (br_t h (br_t rfl ⟨rfl, ⟨⟨rfl, rfl, rfl, rfl, rfl, rfl, rfl⟩, L, J⟩⟩)))
  · exact br_f h (br_t g (br_t rfl (br_f h (br_t g (br_t rfl ⟨rfl, ⟨⟨rfl, rfl, rfl, rfl, rfl, rfl, rfl⟩, L, J⟩⟩)))))
  · have a1 : ¬ nI j < 0 := nI_pos (by omega)
    have a2 : ¬ nI 8 ≤ nI j := nI_ge hj (by decide)
    have a3 : vp_in (nI j) 340 := vp_in_nI (by omega) (by decide)
    refine br_f a1 (br_f a2 (br_f (by decide) ⟨vp_in_nI (by omega) (by decide), nm_e (br_f a1 (br_f a2 (br_f (by decide) ⟨a3, nm_e ⟨a3, nm_e ⟨rfl, ⟨rfl, rfl, rfl, rfl, rfl, rfl, rfl⟩, L, b1, b2, b3, b4, b5, ?_, b7⟩⟩⟩)))⟩))
    rw [nI_clamp (by omega)]
    exact bl_Po_set b6 j (Or.inl ⟨rfl, rfl⟩)
theorem i_vc_kill {k : Nat} {u : SX} {v : SY} (I : i_Rel k u v) (hk : k + 3 ≤ 1536) (v1 : Int32) (v2 : Int32) : wpX_kill (fun r u' => wpY_kill (fun r' v' => r' = r ∧ i_Rel (k + 3) u' v') v v1 v2) u v1 v2 := by
  obtain ⟨dl, lr, lc, xst, xd, xcl, xsc, xm, xa, xs, xb, xg, xe, kX, vX, df, pr, sp, pl, th, fc, fs, fb, fd, fv, fe, kp, kv, cc, cs, ss, sv, so⟩ := u
  obtain ⟨yen, ycl, yw, xb', xst', ym, ya, ys, yk, yv, yc, yt, rk, rv, kY, nY, en, ln, pr', sp', pk, pv, th', ss', po, so', cy, cb, cs', gt, ph, ge, gk, gv, bp, ok, ov, ob⟩ := v
  obtain ⟨⟨rfl, rfl, rfl, rfl, rfl, rfl, rfl⟩, L, B⟩ := I
  obtain ⟨r, hr, hX, hY⟩ := bl_hl (dl := dl) (lr := lr) (lc := lc) (xst := xst') (xd := xd) (xcl := xcl) (xsc := xsc) (xm := xm) (xa := xa) (xs := xs) (xb := xb) (xg := xg) (xe := xe) (kX := kX) (vX := vX) (df := df) (pr := pr') (sp := sp') (pl := pl) (th := th') (fc := fc) (fs := fs) (fb := fb) (fd := fd) (fv := fv) (fe := fe) (kp := kp) (kv := kv) (cc := cc) (cs := cs') (ss := ss') (sv := sv) (so := so') (yen := yen) (ycl := ycl) (yw := yw) (ym := ym) (ya := ya) (ys := ys) (yk := yk) (yv := yv) (yc := yc) (yt := yt) (rk := rk) (rv := rv) (kY := kY) (nY := nY) (en := en) (ln := ln) (pk := pk) (pv := pv) (po := po) (cy := cy) (cb := cb) (gt := gt) (ph := ph) (ge := ge) (gk := gk) (gv := gv) (bp := bp) (ok := ok) (ov := ov) (ob := ob) (yb := xb') v1 v2
  unfold wpX_kill wpY_kill
  rcases hr with rfl | ⟨rfl, i, j, hi, hj, rfl, rfl⟩
  · refine hX _ ?_
    refine br_t rfl ?_
    refine hY _ ?_
    exact br_t rfl ⟨rfl, ⟨⟨rfl, rfl, rfl, rfl, rfl, rfl, rfl⟩, L, B⟩⟩
  · have a3 : vp_in (nI (8 * (i + 1) + j)) 32 := vp_in_nI (by omega) (by decide)
    refine hX _ ?_
    refine br_f (by decide) ?_
    show vp_in ((nI i + 1) * 8 + nI j) 32 ∧ _
    rw [bl_lpX]
    refine ⟨a3, nm_e ?_⟩
    refine hY _ ?_
    refine br_f (by decide) ?_
    rw [bl_lpY]
    exact ⟨a3, nm_e ⟨rfl, ⟨⟨rfl, rfl, rfl, rfl, rfl, rfl, rfl⟩, L, B⟩⟩⟩
theorem i_vc_special {k : Nat} {u : SX} {v : SY} (I : i_Rel k u v) (hk : k + 3 ≤ 1536) (v1 : Int32) (v2 : Int32) : wpX_special (fun r u' => wpY_special (fun r' v' => r' = r ∧ i_Rel (k + 3) u' v') v v1 (lw_bz v2)) u v1 (lw_bz v2) := by
  obtain ⟨dl, lr, lc, xst, xd, xcl, xsc, xm, xa, xs, xb, xg, xe, kX, vX, df, pr, sp, pl, th, fc, fs, fb, fd, fv, fe, kp, kv, cc, cs, ss, sv, so⟩ := u
  obtain ⟨yen, ycl, yw, xb', xst', ym, ya, ys, yk, yv, yc, yt, rk, rv, kY, nY, en, ln, pr', sp', pk, pv, th', ss', po, so', cy, cb, cs', gt, ph, ge, gk, gv, bp, ok, ov, ob⟩ := v
  obtain ⟨⟨rfl, rfl, rfl, rfl, rfl, rfl, rfl⟩, L, B⟩ := I
  have J := B
  obtain ⟨b1, b2, b3, b4, b5, b6, b7⟩ := B
  rcases bl_ix v1 (n := 8) (by decide) with h | ⟨h, g⟩ | ⟨j, hj, rfl⟩
  · exact br_t h (br_t rfl (br_t h (br_t rfl ⟨rfl, ⟨⟨rfl, rfl, rfl, rfl, rfl, rfl, rfl⟩, L, J⟩⟩)))
  · exact br_f h (br_t g (br_t rfl (br_f h (br_t g (br_t rfl ⟨rfl, ⟨⟨rfl, rfl, rfl, rfl, rfl, rfl, rfl⟩, L, J⟩⟩)))))
  · have a1 : ¬ nI j < 0 := nI_pos (by omega)
    have a2 : ¬ nI 8 ≤ nI j := nI_ge hj (by decide)
    have a3 : vp_in (nI j) 8 := vp_in_nI hj (by decide)
    refine br_f a1 (br_f a2 (br_f (by decide) ⟨a3, nm_e (bl_x_fp (bl_x_df (br_f a1 (br_f a2 (br_f (by decide) ⟨a3, nm_e (bl_y_sp ⟨rfl, ⟨rfl, rfl, rfl, rfl, rfl, rfl, rfl⟩, fun r => if r = 0 then L 0 else 0, b1, ?_, ⟨fun r hr => ?_, b3.2⟩, fun r h0 _ hl => ?_, ⟨fun k hk => Or.inl ⟨?_, ?_, ?_⟩, b5.2⟩, fun i hi => Or.inr (Or.inr ⟨?_, ?_⟩), b7⟩)⟩)))))⟩))
    · exact (if_neg (by omega)).trans b2
    · show (if r = 0 then L 0 else 0) ≤ 48
      split
      · exact b3.1 0 (by omega)
      · omega
    · have hl : 0 < (if r = 0 then L 0 else 0) := hl
      rw [if_neg (by omega)] at hl
      omega
    · exact if_pos hk
    · exact if_neg (by omega)
    · exact if_pos hk
    · exact if_pos hi
    · exact if_pos hi
theorem i_vc_token {k : Nat} {u : SX} {v : SY} (I : i_Rel k u v) (hk : k + 3 ≤ 1536) (v1 : Int32) (v2 : Int32) : wpX_token (fun r u' => wpY_token (fun r' v' => r' = r ∧ i_Rel (k + 3) u' v') v v1 v2) u v1 v2 := by
  obtain ⟨dl, lr, lc, xst, xd, xcl, xsc, xm, xa, xs, xb, xg, xe, kX, vX, df, pr, sp, pl, th, fc, fs, fb, fd, fv, fe, kp, kv, cc, cs, ss, sv, so⟩ := u
  obtain ⟨yen, ycl, yw, xb', xst', ym, ya, ys, yk, yv, yc, yt, rk, rv, kY, nY, en, ln, pr', sp', pk, pv, th', ss', po, so', cy, cb, cs', gt, ph, ge, gk, gv, bp, ok, ov, ob⟩ := v
  obtain ⟨⟨rfl, rfl, rfl, rfl, rfl, rfl, rfl⟩, L, B⟩ := I
  have J := B
  obtain ⟨b1, b2, b3, b4, b5, b6, b7⟩ := B
  have l0 := b3.1 0 (by omega)
  subst b1
  by_cases c : L 0 = 48
  · refine br_t ?_ (bl_y_tok (fun _ => br_t ?_ ⟨rfl, ⟨⟨rfl, rfl, rfl, rfl, rfl, rfl, rfl⟩, L, J⟩⟩) (fun _ => ⟨rfl, ⟨⟨rfl, rfl, rfl, rfl, rfl, rfl, rfl⟩, L, J⟩⟩))
    · rw [c]; decide
    · rw [b2, c]; rfl
  · refine br_f (nI_ge (b := 48) (by omega) (by decide)) (bl_x_tok (fun hT => ?_) (fun hT => br_t rfl (bl_y_tok (fun z => absurd z hT) (fun _ => ⟨rfl, ⟨⟨rfl, rfl, rfl, rfl, rfl, rfl, rfl⟩, L, J⟩⟩))))
    have e1 : (192 : Int32) + nI (L 0) = nI (192 + L 0) := nI_add 192 (L 0)
    have i1 : vp_in (nI (L 0)) 240 := vp_in_nI (by omega) (by decide)
    have i2 : vp_in (nI (192 + L 0)) 240 := vp_in_nI (by omega) (by decide)
    refine br_f (by decide) ⟨i1, nm_e ⟨i1, nm_e (nm_r (nI_1 _) (bl_y_tok (fun _ => br_f ?_ ?_) (fun z => absurd hT z)))⟩⟩
    · rw [b2]
      intro e
      exact c ((nI_eq (a := L 0) (b := 48) (by omega) (by decide)).mp e)
    · rw [b2, e1]
      refine ⟨i2, nm_e ⟨i2, nm_e (nm_e ⟨?_, ⟨rfl, rfl, rfl, rfl, rfl, rfl, rfl⟩, fun r => if r = 0 then L 0 + 1 else L r, rfl, ?_, ⟨fun r hr => ?_, fun r hr i hi => ?_, fun p hp => ?_⟩, fun r h0 hr hl => ?_, ⟨fun k hk => ?_, b5.2⟩, b6, b7⟩)⟩⟩
      · exact pk_us.trans (nI_1 _)
      · exact pk_us.trans (nI_1 _)
      · show (if r = 0 then L 0 + 1 else L r) ≤ 48
        split
        · omega
        · exact b3.1 r hr
      · rw [nI_clamp (by omega), nI_clamp (by omega)]
        by_cases e : r = 0 ∧ i = L 0
        · obtain ⟨rfl, rfl⟩ := e
          rw [show bl_yb 0 + L 0 = 192 + L 0 from rfl, show 48 * 0 + L 0 = L 0 from by omega, pk_us, pk_us, pk_us, pk_us]
          exact ⟨rfl, rfl⟩
        · have n1 : bl_yb r + i ≠ 192 + L 0 := by
            by_cases e0 : r = 0
            · subst e0
              show 192 + i ≠ 192 + L 0
              omega
            · have := bl_yb_ne (r := r) (r' := 0) (i := i) (i' := L 0) hr (by omega) e0 hi (by omega)
              exact this
          have n2 : 48 * r + i ≠ L 0 := by omega
          rw [pk_un n1, pk_un n1, pk_un n2, pk_un n2]
          exact b3.2.1 r hr i hi
      · rw [nI_clamp (by omega)]
        by_cases e : p = L 0
        · subst e
          rw [pk_us, pk_us]; exact hT
        · rw [pk_un e, pk_un e]; exact b3.2.2 p hp
      · have hl : 0 < (if r = 0 then L 0 + 1 else L r) := hl
        rw [if_neg (by omega)] at hl
        refine bl_Re_cg (L := L) (kX := kX) (en := en) ?_ (b3.1 r hr) (fun i _ => ?_) (fun i _ => rfl) (b4 r h0 hr hl)
        · exact if_neg (by omega)
        · rw [nI_clamp (by omega), pk_un (by omega)]
      · show (df k = 0 ∧ (if k + 1 = 0 then L 0 + 1 else L (k + 1)) = 0 ∧ upd ln 4 (nI (L 0) + 1) k = 0) ∨ (df k = 1 ∧ 0 < (if k + 1 = 0 then L 0 + 1 else L (k + 1)) ∧ upd ln 4 (nI (L 0) + 1) k = nI (if k + 1 = 0 then L 0 + 1 else L (k + 1)))
        rw [if_neg (by omega), pk_un (by omega)]
        exact b5.1 k hk
