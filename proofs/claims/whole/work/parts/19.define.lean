/-! define -/
section
variable {dl lc xst xd xcl xsc xm xa xs xb xe yen ycl yw ym ya ys yk yv yc yt rk rv : Int32}
variable {lr xg : Int64}
variable {kX vX df pr sp th fc fs fb fd fe kp cc cs ss so kY nY en ln pk pv po cy cb gt ph ge gk gv bp ok ov ob : Nat → Int32}
variable {pl fv kv sv : Nat → Int64}
variable {L : Nat → Nat} {k n : Nat} {yb a : Int32}
theorem bl_x_cp (hk : k < 4) (hn : n ≤ 48) {post : Int32 → SX → Prop} (hp : ∀ kX' vX' : Nat → Int32, (∀ i, i < n → kX' (48 * (k + 1) + i) = kX i ∧ vX' (48 * (k + 1) + i) = vX i) → (∀ p, (∀ i, i < n → p ≠ 48 * (k + 1) + i) → kX' p = kX p ∧ vX' p = vX p) → post 1 (0, lr, lc, xst, xd, xcl, xsc, xm, xa, xs, xb, xg, xe, kX', vX', (upd df k 1), (upd pr k a), sp, pl, th, fc, fs, fb, fd, fv, fe, kp, kv, cc, cs, ss, sv, so)) : ∃ m, wX_define_33 post (nI k) a (nI (48 * (k + 1))) (nI n) lr lc xst xd xcl xsc xm xa xs xb xg xe m 0 kX vX df pr sp pl th fc fs fb fd fv fe kp kv cc cs ss sv so := by
  have ck : (nI k).toNatClampNeg = k := nI_clamp (by omega)
  have k4 : vp_in (nI k) 4 := vp_in_nI hk (by decide)
  have key : ∀ f l (kX' vX' : Nat → Int32), l ≤ n → n - l < f → (∀ i, i < l → kX' (48 * (k + 1) + i) = kX i ∧ vX' (48 * (k + 1) + i) = vX i) → (∀ p, (∀ i, i < l → p ≠ 48 * (k + 1) + i) → kX' p = kX p ∧ vX' p = vX p) → wX_define_33 post (nI k) a (nI (48 * (k + 1))) (nI n) lr lc xst xd xcl xsc xm xa xs xb xg xe f (nI l) kX' vX' df pr sp pl th fc fs fb fd fv fe kp kv cc cs ss sv so := by
    intro f
    induction f with
    | zero => intro l _ _ _ h; omega
    | succ f ih =>
      intro l kX' vX' h1 h2 A B
      by_cases c : l = n
      · subst c
        exact br_t (nI_le (Nat.le_refl _) (by omega)) ⟨k4, nm_r (e' := upd pr k a) (by rw [ck]) ⟨k4, nm_r (e' := upd df k 1) (by rw [ck, bl_nb1]) (hp kX' vX' A B)⟩⟩
      · have cl0 : (nI l).toNatClampNeg = l := nI_clamp (by omega)
        have i1 : vp_in (nI l) 240 := vp_in_nI (by omega) (by decide)
        have ea : nI (48 * (k + 1)) + nI l = nI (48 * (k + 1) + l) := nI_add _ _
        have i2 : vp_in (nI (48 * (k + 1) + l)) 240 := vp_in_nI (by omega) (by decide)
        have ca : (nI (48 * (k + 1) + l)).toNatClampNeg = 48 * (k + 1) + l := nI_clamp (by omega)
        have bl := B l (fun i hi => by omega)
        refine br_f (nI_ge (by omega) (by omega)) ⟨i1, ?_⟩
        rw [ea, ca, cl0]
        refine ⟨i2, nm_e ⟨i1, i2, nm_e (nm_r (nI_1 l) (ih (l + 1) _ _ (by omega) (by omega) (fun i hi => ?_) (fun p hq => ?_)))⟩⟩
        · by_cases e : i = l
          · subst e
            rw [pk_us, pk_us]; exact bl
          · rw [pk_un (by omega), pk_un (by omega)]; exact A i (by omega)
        · rw [pk_un (hq l (by omega)), pk_un (hq l (by omega))]
          exact B p (fun i hi => hq i (by omega))
  exact ⟨n + 1, key (n + 1) 0 kX vX (by omega) (by omega) (fun i hi => by omega) (fun p _ => ⟨rfl, rfl⟩)⟩
theorem bl_y_cp (hk : k < 4) (hn : n ≤ 48) (hln : ln 4 = nI n) {post : Int32 → SY → Prop} (hp : ∀ kY' nY' : Nat → Int32, (∀ i, i < n → kY' (48 * k + i) = kY (192 + i) ∧ nY' (48 * k + i) = nY (192 + i)) → (∀ p, (∀ i, i < n → p ≠ 48 * k + i) → kY' p = kY p ∧ nY' p = nY p) → ∃ en' : Nat → Int32, (∀ post' : SY → Prop, post' (yen, ycl, yw, yb, xst, ym, ya, ys, yk, yv, yc, yt, rk, rv, kY', nY', en', (upd ln k (nI n)), (upd pr k a), sp, pk, pv, th, ss, po, so, cy, cb, cs, gt, ph, ge, gk, gv, bp, ok, ov, ob) → wpY_findEnds post' (yen, ycl, yw, yb, xst, ym, ya, ys, yk, yv, yc, yt, rk, rv, kY', nY', en, (upd ln k (nI n)), (upd pr k a), sp, pk, pv, th, ss, po, so, cy, cb, cs, gt, ph, ge, gk, gv, bp, ok, ov, ob) (nI (bl_yb (k + 1))) (nI n)) ∧ post 1 (yen, ycl, yw, yb, xst, ym, ya, ys, yk, yv, yc, yt, rk, rv, kY', nY', en', (upd (upd ln k (nI n)) 4 0), (upd pr k a), sp, pk, pv, th, ss, po, so, cy, cb, cs, gt, ph, ge, gk, gv, bp, ok, ov, ob)) : ∃ m, wY_define_28 post (nI k) a yen ycl yw yb xst ym ya ys yk yv yc yt rk rv m 0 kY nY en ln pr sp pk pv th ss po so cy cb cs gt ph ge gk gv bp ok ov ob := by
  have ck : (nI k).toNatClampNeg = k := nI_clamp (by omega)
  have k4 : vp_in (nI k) 4 := vp_in_nI hk (by decide)
  have k5 : vp_in (nI k) 5 := vp_in_nI (by omega) (by decide)
  have e48 : (48 : Int32) * nI k = nI (48 * k) := pk_mul 48 k
  have eyb : bl_yb (k + 1) = 48 * k := by unfold bl_yb; rw [if_neg (by omega)]; omega
  have key : ∀ f l (kY' nY' : Nat → Int32), l ≤ n → n - l < f → (∀ i, i < l → kY' (48 * k + i) = kY (192 + i) ∧ nY' (48 * k + i) = nY (192 + i)) → (∀ p, (∀ i, i < l → p ≠ 48 * k + i) → kY' p = kY p ∧ nY' p = nY p) → wY_define_28 post (nI k) a yen ycl yw yb xst ym ya ys yk yv yc yt rk rv f (nI l) kY' nY' en ln pr sp pk pv th ss po so cy cb cs gt ph ge gk gv bp ok ov ob := by
    intro f
    induction f with
    | zero => intro l _ _ _ h; omega
    | succ f ih =>
      intro l kY' nY' h1 h2 A B
      by_cases c : l = n
      · subst c
        obtain ⟨en', W, hP⟩ := hp kY' nY' A B
        refine br_t (by rw [hln]; exact nI_le (Nat.le_refl _) (by omega)) ⟨k5, nm_r (e' := upd ln k (nI l)) (by rw [ck, hln]) ⟨k4, nm_r (e' := upd pr k a) (by rw [ck]) ⟨k5, ?_⟩⟩⟩
        rw [ck, pk_us, e48, ← eyb]
        exact W _ (nm_e hP)
      · have ea : nI (48 * k) + nI l = nI (48 * k + l) := nI_add _ _
        have eb : (192 : Int32) + nI l = nI (192 + l) := nI_add 192 l
        have i1 : vp_in (nI (192 + l)) 240 := vp_in_nI (by omega) (by decide)
        have i2 : vp_in (nI (48 * k + l)) 240 := vp_in_nI (by omega) (by decide)
        have ca : (nI (48 * k + l)).toNatClampNeg = 48 * k + l := nI_clamp (by omega)
        have cb : (nI (192 + l)).toNatClampNeg = 192 + l := nI_clamp (by omega)
        have bl := B (192 + l) (fun i hi => by omega)
        refine br_f (by rw [hln]; exact nI_ge (by omega) (by omega)) ?_
        rw [e48, ea, eb, ca, cb]
        refine ⟨i1, i2, nm_e ⟨i1, i2, nm_e (nm_r (nI_1 l) (ih (l + 1) _ _ (by omega) (by omega) (fun i hi => ?_) (fun p hq => ?_)))⟩⟩
        · by_cases e : i = l
          · subst e
            rw [pk_us, pk_us]; exact bl
          · rw [pk_un (by omega), pk_un (by omega)]; exact A i (by omega)
        · rw [pk_un (hq l (by omega)), pk_un (hq l (by omega))]
          exact B p (fun i hi => hq i (by omega))
  exact ⟨n + 1, key (n + 1) 0 kY nY (by omega) (by omega) (fun i hi => by omega) (fun p _ => ⟨rfl, rfl⟩)⟩
end
theorem i_vc_define {k : Nat} {u : SX} {v : SY} (I : i_Rel k u v) (hk : k + 3 ≤ 1536) (v1 : Int32) (v2 : Int32) : wpX_define (fun r u' => wpY_define (fun r' v' => r' = r ∧ i_Rel (k + 3) u' v') v v1 v2) u v1 v2 := by
  obtain ⟨dl, lr, lc, xst, xd, xcl, xsc, xm, xa, xs, xb, xg, xe, kX, vX, df, pr, sp, pl, th, fc, fs, fb, fd, fv, fe, kp, kv, cc, cs, ss, sv, so⟩ := u
  obtain ⟨yen, ycl, yw, xb', xst', ym, ya, ys, yk, yv, yc, yt, rk, rv, kY, nY, en, ln, pr', sp', pk, pv, th', ss', po, so', cy, cb, cs', gt, ph, ge, gk, gv, bp, ok, ov, ob⟩ := v
  obtain ⟨⟨rfl, rfl, rfl, rfl, rfl, rfl, rfl⟩, L, B⟩ := I
  have J := B
  obtain ⟨b1, b2, b3, b4, b5, b6, b7⟩ := B
  subst b1
  have l0 := b3.1 0 (by omega)
  have hy : ∀ i, i < 48 → kY (192 + i) = kX i := by
    intro i hi
    have q := (b3.2.1 0 (by omega) i hi).1
    rw [show 48 * 0 + i = i from by omega] at q
    exact q
  have hy2 : ∀ i, i < 48 → nY (192 + i) = vX i := by
    intro i hi
    have q := (b3.2.1 0 (by omega) i hi).2
    rw [show 48 * 0 + i = i from by omega] at q
    exact q
  obtain ⟨b, hb, hX, hY⟩ := bl_isx (lr := lr) (lc := lc) (xst := xst') (xd := xd) (xcl := xcl) (xsc := xsc) (xm := xm) (xa := xa) (xs := xs) (xb := xb) (xg := xg) (xe := xe) (kX := kX) (vX := vX) (df := df) (pr := pr') (sp := sp') (pl := pl) (th := th') (fc := fc) (fs := fs) (fb := fb) (fd := fd) (fv := fv) (fe := fe) (kp := kp) (kv := kv) (cc := cc) (cs := cs') (ss := ss') (sv := sv) (so := so') (yen := yen) (ycl := ycl) (yw := yw) (ym := ym) (ya := ya) (ys := ys) (yk := yk) (yv := yv) (yc := yc) (yt := yt) (rk := rk) (rv := rv) (kY := kY) (nY := nY) (en := en) (ln := ln) (pk := pk) (pv := pv) (po := po) (cy := cy) (cb := cb) (gt := gt) (ph := ph) (ge := ge) (gk := gk) (gv := gv) (bp := bp) (ok := ok) (ov := ov) (ob := ob) (yb := xb') (n := L 0) b3.2.2 hy l0 b2
  rcases bl_ix v1 (n := 4) (by decide) with h | ⟨h, g⟩ | ⟨f, hf, rfl⟩
  · exact br_t h (br_t h (br_t rfl ⟨rfl, ⟨⟨rfl, rfl, rfl, rfl, rfl, rfl, rfl⟩, L, J⟩⟩))
  · exact br_f h (br_t g (br_f h (br_t g (br_t rfl ⟨rfl, ⟨⟨rfl, rfl, rfl, rfl, rfl, rfl, rfl⟩, L, J⟩⟩))))
  have a1 : ¬ nI f < 0 := nI_pos (by omega)
  have a2 : ¬ nI 4 ≤ nI f := nI_ge hf (by decide)
  rcases bl_ix v2 (n := 8) (by decide) with h | ⟨h, g⟩ | ⟨j, hj, rfl⟩
  · exact br_f a1 (br_f a2 (br_t h (br_t rfl (br_f a1 (br_f a2 (br_f (by decide) (br_t h (br_t rfl ⟨rfl, ⟨⟨rfl, rfl, rfl, rfl, rfl, rfl, rfl⟩, L, J⟩⟩))))))))
  · exact br_f a1 (br_f a2 (br_f h (br_t g (br_t rfl (br_f a1 (br_f a2 (br_f (by decide) (br_f h (br_t g (br_t rfl ⟨rfl, ⟨⟨rfl, rfl, rfl, rfl, rfl, rfl, rfl⟩, L, J⟩⟩))))))))))
  have a3 : ¬ nI j < 0 := nI_pos (by omega)
  have a4 : ¬ nI 8 ≤ nI j := nI_ge hj (by decide)
  have eX : (nI f + 1) * 48 = nI (48 * (f + 1)) := by
    rw [nI_1, show (48 : Int32) = nI 48 from rfl, pk_mul, Nat.mul_comm]
  refine br_f a1 (br_f a2 (br_f a3 (br_f a4 (br_f (by decide) ?_))))
  refine hX _ ?_
  rcases hb with ⟨rfl, Vd⟩ | rfl
  · refine br_f (by decide) ?_
    show ∃ n33 : Nat, wX_define_33 _ (nI f) (nI j) ((nI f + 1) * 48) (nI (L 0)) lr lc xst' xd xcl xsc xm xa xs xb xg xe n33 0 kX vX df pr' sp' pl th' fc fs fb fd fv fe kp kv cc cs' ss' sv so'
    rw [eX]
    refine bl_x_cp hf l0 (fun kX' vX' AX BX => ?_)
    refine br_f a1 (br_f a2 (br_f (by decide) (br_f a3 (br_f a4 (br_f (by decide) ?_)))))
    refine hY _ ?_
    refine br_f (by decide) ?_
    refine bl_y_cp hf l0 b2 (fun kY' nY' AY BY => ?_)
    have ey : bl_yb (f + 1) = 48 * f := by unfold bl_yb; rw [if_neg (by omega)]; omega
    have n0 : 0 < L 0 := by
      by_cases z : L 0 = 0
      · have := Vd.2
        rw [z] at this
        have e1 : pf_D (bl_rg kX 0) 0 = 1 := rfl
        omega
      · omega
    have tk' : ∀ p, p < 240 → bl_tk (kX' p) (vX' p) := by
      intro p hp
      by_cases z : ∃ i, i < L 0 ∧ p = 48 * (f + 1) + i
      · obtain ⟨i, hi, rfl⟩ := z
        rw [(AX i hi).1, (AX i hi).2]
        exact b3.2.2 i (by omega)
      · have q := BX p (fun i hi e => z ⟨i, hi, e⟩)
        rw [q.1, q.2]
        exact b3.2.2 p hp
    have co : ∀ r, r < 5 → ∀ i, i < 48 → kY' (bl_yb r + i) = kX' (48 * r + i) ∧ nY' (bl_yb r + i) = vX' (48 * r + i) := by
      intro r hr i hi
      by_cases z : r = f + 1 ∧ i < L 0
      · obtain ⟨rfl, hi2⟩ := z
        rw [ey, (AY i hi2).1, (AY i hi2).2, (AX i hi2).1, (AX i hi2).2]
        exact ⟨hy i hi, hy2 i hi⟩
      · have qX := BX (48 * r + i) (fun i' hi' e => z (by omega))
        have qY := BY (bl_yb r + i) (fun i' hi' e => by
          by_cases z2 : r = f + 1
          · subst z2
            rw [ey] at e
            exact z ⟨rfl, by omega⟩
          · rw [← ey] at e
            exact bl_yb_ne hr (by omega) z2 hi (by omega) e)
        rw [qX.1, qX.2, qY.1, qY.2]
        exact b3.2.1 r hr i hi
    have V' : pf_V (bl_rg kX' (f + 1)) (L 0) := by
      refine pf_V_cg (fun i hi => ?_) Vd
      show bl_ar (kX' (48 * (f + 1) + i)) = bl_ar (kX (48 * 0 + i))
      rw [(AX i hi).1, show 48 * 0 + i = i from by omega]
    obtain ⟨en', T, U, W⟩ := bl_fe (kX := kX') (vX := vX') (r := f + 1) (n := L 0) (yen := yen) (ycl := ycl) (yw := yw) (xst := xst') (ym := ym) (ya := ya) (ys := ys) (yk := yk) (yv := yv) (yc := yc) (yt := yt) (rk := rk) (rv := rv) (kY := kY') (nY := nY') (en := en) (ln := upd ln f (nI (L 0))) (pr := upd pr' f (nI j)) (sp := sp') (pk := pk) (pv := pv) (th := th') (ss := ss') (po := po) (so := so') (cy := cy) (cb := cb) (cs := cs') (gt := gt) (ph := ph) (ge := ge) (gk := gk) (gv := gv) (bp := bp) (ok := ok) (ov := ov) (ob := ob) (yb := xb') tk' (by omega) l0 (fun i hi => (co (f + 1) (by omega) i (by omega)).1) V'
    refine ⟨en', W, rfl, ⟨rfl, rfl, rfl, rfl, rfl, rfl, rfl⟩, fun r => if r = 0 then 0 else if r = f + 1 then L 0 else L r, rfl, pk_us, ⟨fun r hr => ?_, co, tk'⟩, fun r h0 hr hl => ?_, ⟨fun m hm => ?_, fun m hm => ?_⟩, b6, b7⟩
    · show (if r = 0 then 0 else if r = f + 1 then L 0 else L r) ≤ 48
      split
      · omega
      · split
        · exact l0
        · exact b3.1 r hr
    · have hl : 0 < (if r = 0 then 0 else if r = f + 1 then L 0 else L r) := hl
      rw [if_neg (by omega)] at hl
      by_cases z : r = f + 1
      · subst z
        have eL : (fun r => if r = 0 then 0 else if r = f + 1 then L 0 else L r) (f + 1) = L 0 := by
          show (if f + 1 = 0 then 0 else if f + 1 = f + 1 then L 0 else L (f + 1)) = L 0
          rw [if_neg (by omega), if_pos rfl]
        refine ⟨?_, ?_⟩
        · rw [eL]; exact V'
        · rw [eL]; exact T
      · rw [if_neg z] at hl
        refine bl_Re_cg (L := L) (kX := kX) (en := en) ?_ (b3.1 r hr) (fun i hi => ?_) (fun i hi => ?_) (b4 r h0 hr hl)
        · show (if r = 0 then 0 else if r = f + 1 then L 0 else L r) = L r
          rw [if_neg (by omega), if_neg z]
        · have := b3.1 r hr
          exact (BX (48 * r + i) (fun i' hi' e => by omega)).1
        · have := b3.1 r hr
          exact U (bl_yb r + i) (fun i' hi' => bl_yb_ne hr (by omega) z (by omega) (by omega))
    · show (upd df f 1 m = 0 ∧ (if m + 1 = 0 then 0 else if m + 1 = f + 1 then L 0 else L (m + 1)) = 0 ∧ upd (upd ln f (nI (L 0))) 4 0 m = 0) ∨ (upd df f 1 m = 1 ∧ 0 < (if m + 1 = 0 then 0 else if m + 1 = f + 1 then L 0 else L (m + 1)) ∧ upd (upd ln f (nI (L 0))) 4 0 m = nI (if m + 1 = 0 then 0 else if m + 1 = f + 1 then L 0 else L (m + 1)))
      rw [if_neg (by omega), pk_un (f := upd ln f (nI (L 0))) (k := 4) (j := m) (by omega)]
      by_cases z : m = f
      · subst z
        rw [if_pos rfl, pk_us, pk_us]
        exact Or.inr ⟨rfl, n0, rfl⟩
      · rw [if_neg (by omega), pk_un z, pk_un z]
        exact b5.1 m hm
    · by_cases z : m = f
      · subst z
        exact ⟨j, hj, pk_us⟩
      · obtain ⟨j', hj', e'⟩ := b5.2 m hm
        exact ⟨j', hj', (pk_un z).trans e'⟩
  · refine br_t rfl ?_
    refine br_f a1 (br_f a2 (br_f (by decide) (br_f a3 (br_f a4 (br_f (by decide) ?_)))))
    refine hY _ ?_
    exact br_t rfl ⟨rfl, ⟨⟨rfl, rfl, rfl, rfl, rfl, rfl, rfl⟩, L, J⟩⟩
