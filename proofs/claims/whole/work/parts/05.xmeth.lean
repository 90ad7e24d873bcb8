/-! the inner methods of the component -/
theorem bl_x_pc {post : Int32 → Prop} {k v : Int32} (h : bl_tk k v) (hp : post (nI (bl_ar k))) : wpX_partCount post k := by
  rcases h with (h | h | h | h | h | h | h | h | h | h) | ⟨(h | h | h | h | h), _⟩ | ⟨(h | h | h), _⟩ | ⟨h, _⟩ <;> subst h <;> simp [bl_ar] at hp <;> simp [wpX_partCount] <;> exact hp
theorem bl_y_pc {post : Int32 → Prop} {k v : Int32} (h : bl_tk k v) (hp : post (nI (bl_ar k))) : wpY_operands post k := by
  rcases h with (h | h | h | h | h | h | h | h | h | h) | ⟨(h | h | h | h | h), _⟩ | ⟨(h | h | h), _⟩ | ⟨h, _⟩ <;> subst h <;> simp [bl_ar] at hp <;> simp [wpY_operands] <;> exact hp
theorem bl_due {x a : Nat} (h : 1 ≤ x) : nI x + (nI a - 1) = nI (x + a - 1) := by
  obtain ⟨y, rfl⟩ : ∃ y, x = y + 1 := ⟨x - 1, by omega⟩
  rw [show y + 1 + a - 1 = y + a from by omega, ← nI_1, ← nI_add]
  grind
section
variable {dl lc xst xd xcl xsc xm xa xs xb xe yen ycl yw ym ya ys yk yv yc yt rk rv : Int32}
variable {lr xg : Int64}
variable {kX vX df pr sp th fc fs fb fd fe kp cc cs ss so kY nY en ln pk pv po cy cb gt ph ge gk gv bp ok ov ob : Nat → Int32}
variable {pl fv kv sv : Nat → Int64}
variable {L : Nat → Nat} {d r t m m2 p i : Nat}
theorem bl_x_beh (hk : ∀ p, p < 240 → bl_tk (kX p) (vX p)) (hr : r < 5) (hm : m ≤ 48) (E : pf_E (bl_rg kX r) i m) {post : Int32 → Prop} (hp : post (nI (48 * r + m))) : wpX_behindExpression post (dl, lr, lc, xst, xd, xcl, xsc, xm, xa, xs, xb, xg, xe, kX, vX, df, pr, sp, pl, th, fc, fs, fb, fd, fv, fe, kp, kv, cc, cs, ss, sv, so) (nI (48 * r + i)) := by
  have key : ∀ n l, i ≤ l → l ≤ m → m - l < n → wX_behindExpression_4 post dl lr lc xst xd xcl xsc xm xa xs xb xg xe kX vX df pr sp pl th fc fs fb fd fv fe kp kv cc cs ss sv so n (nI (pf_D (bl_rg kX r) l + 1 - pf_D (bl_rg kX r) i)) (nI (48 * r + l)) := by
    intro n
    induction n with
    | zero => intro l _ _ h; omega
    | succ n ih =>
      intro l h1 h2 h3
      by_cases c : l = m
      · subst c
        refine br_c (fun _ => hp) (fun _ => br_t ?_ hp)
        rw [show pf_D (bl_rg kX r) l + 1 - pf_D (bl_rg kX r) i = 0 from by have := E.2.1; omega]
        decide
      · have e1 := E.2.2 l h1 (by omega)
        have e2 := pf_D_le (g := bl_rg kX r) (fun i => bl_ar_le _) l
        refine br_f (nI_ge (b := 240) (by omega) (by decide)) (br_f (nI_nle (by omega) (by omega)) ⟨vp_in_nI (by omega) (by decide), ?_⟩)
        rw [nI_clamp (by omega)]
        refine bl_x_pc (hk _ (by omega)) ?_
        have e3 : pf_D (bl_rg kX r) (l + 1) = pf_D (bl_rg kX r) l + bl_ar (kX (48 * r + l)) - 1 := rfl
        refine nm_r ((bl_due (by omega)).trans (congrArg nI ?_)) (nm_r (nI_1 _) (ih (l + 1) (by omega) (by omega) (by omega)))
        have e5 := E.2.1
        omega
  refine ⟨m - i + 1, ?_⟩
  have := key (m - i + 1) i (Nat.le_refl _) (Nat.le_of_lt E.1) (by omega)
  rw [show pf_D (bl_rg kX r) i + 1 - pf_D (bl_rg kX r) i = 1 from by omega] at this
  exact this
theorem bl_x_sp1 (hd : d < 300) (hp0 : 48 * r + t < 240) (hfc : fc d = nI (48 * r + t)) {post : SX → Prop} (hp : post (dl, lr, lc, xst, (nI (d + 1)), xcl, xsc, 0, (nI (48 * r + (t + 1))), (fs d), xb, xg, xe, kX, vX, df, pr, sp, pl, th, fc, fs, fb, fd, fv, fe, kp, kv, cc, cs, ss, sv, so)) : wpX_startPart post (dl, lr, lc, xst, (nI (d + 1)), xcl, xsc, xm, xa, xs, xb, xg, xe, kX, vX, df, pr, sp, pl, th, fc, fs, fb, fd, fv, fe, kp, kv, cc, cs, ss, sv, so) 1 := by
  refine nm_r (nI_pred d) ⟨vp_in_nI hd (by decide), nm_r (e' := nI (48 * r + (t + 1))) ?_ ⟨1, br_t (by decide) ⟨vp_in_nI hd (by decide), ?_⟩⟩⟩
  · rw [nI_clamp (by omega), hfc, nI_1]; rfl
  · rw [nI_clamp (by omega)]; exact hp
theorem bl_x_sp2 (hk : ∀ p, p < 240 → bl_tk (kX p) (vX p)) (hr : r < 5) (hm : m ≤ 48) (E : pf_E (bl_rg kX r) (t + 1) m) (hd : d < 300) (hp0 : 48 * r + t < 240) (hfc : fc d = nI (48 * r + t)) {post : SX → Prop} (hp : post (dl, lr, lc, xst, (nI (d + 1)), xcl, xsc, 0, (nI (48 * r + m)), (fs d), xb, xg, xe, kX, vX, df, pr, sp, pl, th, fc, fs, fb, fd, fv, fe, kp, kv, cc, cs, ss, sv, so)) : wpX_startPart post (dl, lr, lc, xst, (nI (d + 1)), xcl, xsc, xm, xa, xs, xb, xg, xe, kX, vX, df, pr, sp, pl, th, fc, fs, fb, fd, fv, fe, kp, kv, cc, cs, ss, sv, so) 2 := by
  refine nm_r (nI_pred d) ⟨vp_in_nI hd (by decide), nm_r (e' := nI (48 * r + (t + 1))) ?_ ⟨2, br_f (by decide) (bl_x_beh hk hr hm E (nm_r (e' := 2) (by decide) (br_t (by decide) ⟨vp_in_nI hd (by decide), ?_⟩)))⟩⟩
  · rw [nI_clamp (by omega), hfc, nI_1]; rfl
  · rw [nI_clamp (by omega)]; exact hp
theorem bl_x_sp3 (hk : ∀ p, p < 240 → bl_tk (kX p) (vX p)) (hr : r < 5) (hm : m ≤ 48) (E : pf_E (bl_rg kX r) (t + 1) m) (hm2 : m2 ≤ 48) (E2 : pf_E (bl_rg kX r) m m2) (hd : d < 300) (hp0 : 48 * r + t < 240) (hfc : fc d = nI (48 * r + t)) {post : SX → Prop} (hp : post (dl, lr, lc, xst, (nI (d + 1)), xcl, xsc, 0, (nI (48 * r + m2)), (fs d), xb, xg, xe, kX, vX, df, pr, sp, pl, th, fc, fs, fb, fd, fv, fe, kp, kv, cc, cs, ss, sv, so)) : wpX_startPart post (dl, lr, lc, xst, (nI (d + 1)), xcl, xsc, xm, xa, xs, xb, xg, xe, kX, vX, df, pr, sp, pl, th, fc, fs, fb, fd, fv, fe, kp, kv, cc, cs, ss, sv, so) 3 := by
  refine nm_r (nI_pred d) ⟨vp_in_nI hd (by decide), nm_r (e' := nI (48 * r + (t + 1))) ?_ ⟨3, br_f (by decide) (bl_x_beh hk hr hm E (nm_r (e' := 2) (by decide) (br_f (by decide) (bl_x_beh hk hr hm2 E2 (nm_r (e' := 3) (by decide) (br_t (by decide) ⟨vp_in_nI hd (by decide), ?_⟩))))))⟩⟩
  · rw [nI_clamp (by omega), hfc, nI_1]; rfl
  · rw [nI_clamp (by omega)]; exact hp
theorem bl_x_cl1 (hd : d < 300) (hk : kp d = -1) {post : SX → Prop} (hp : post (dl, lr, lc, xst, (nI d), xcl, xsc, xm, xa, xs, (fb d), xg, xe, kX, vX, df, pr, sp, pl, th, fc, fs, fb, fd, fv, fe, kp, kv, cc, cs, ss, sv, so)) : wpX_closeFrame post (dl, lr, lc, xst, (nI (d + 1)), xcl, xsc, xm, xa, xs, xb, xg, xe, kX, vX, df, pr, sp, pl, th, fc, fs, fb, fd, fv, fe, kp, kv, cc, cs, ss, sv, so) := by
  refine nm_r (nI_pred d) ⟨vp_in_nI hd (by decide), br_t ?_ ⟨vp_in_nI hd (by decide), nm_r (e' := fb d) ?_ hp⟩⟩
  · rw [nI_clamp (by omega)]; exact hk
  · rw [nI_clamp (by omega)]
theorem bl_neg1 {p : Nat} (hp : p < 1000) : ¬ nI p = -1 := by
  intro h
  have h2 := nI_pos (n := p) (by omega)
  rw [h] at h2
  exact h2 (by decide)
theorem bl_x_cl2 (hd : d < 300) (hk : kp d = nI p) (hp0 : p < 32) {post : SX → Prop} (hp : post (dl, lr, lc, xst, (nI d), xcl, xsc, xm, xa, xs, (fb d), xg, xe, kX, vX, df, pr, sp, (vp_updL pl p (kv d)), th, fc, fs, fb, fd, fv, fe, kp, kv, cc, cs, ss, sv, so)) : wpX_closeFrame post (dl, lr, lc, xst, (nI (d + 1)), xcl, xsc, xm, xa, xs, xb, xg, xe, kX, vX, df, pr, sp, pl, th, fc, fs, fb, fd, fv, fe, kp, kv, cc, cs, ss, sv, so) := by
  refine nm_r (nI_pred d) ⟨vp_in_nI hd (by decide), ?_⟩
  rw [nI_clamp (by omega), hk]
  refine br_f (bl_neg1 (by omega)) ⟨vp_in_nI hd (by decide), vp_in_nI hd (by decide), vp_in_nI hp0 (by decide), nm_r (e' := vp_updL pl p (kv d)) ?_ ⟨vp_in_nI hd (by decide), nm_r (e' := fb d) ?_ hp⟩⟩
  · rw [nI_clamp (by omega)]
  · rw [nI_clamp (by omega)]
theorem bl_x_pp {j b : Nat} (hj : j < 8) (hb : b < 3) {post : Int32 → Prop} (hp : post (if th (8 * (b + 1) + j) = 0 then nI j else nI (8 * (b + 1) + j))) : wpX_presentPlace post (dl, lr, lc, xst, xd, xcl, xsc, xm, xa, xs, (nI b), xg, xe, kX, vX, df, pr, sp, pl, th, fc, fs, fb, fd, fv, fe, kp, kv, cc, cs, ss, sv, so) (nI j) := by
  have e : (nI b + 1) * 8 + nI j = nI (8 * (b + 1) + j) := by
    rw [nI_1, show (8 : Int32) = nI 8 from rfl, pk_mul, nI_add, Nat.mul_comm]
  show vp_in ((nI b + 1) * 8 + nI j) 32 ∧ _
  rw [e, nI_clamp (by omega)]
  refine ⟨vp_in_nI (by omega) (by decide), ?_⟩
  by_cases c : th (8 * (b + 1) + j) = 0
  · rw [if_pos c] at hp; exact br_t c hp
  · rw [if_neg c] at hp; exact br_f c hp
theorem bl_y_pp {j b : Nat} (hj : j < 8) (hb : b < 3) {post : Int32 → Prop} (hp : post (if th (8 * (b + 1) + j) = 0 then nI j else nI (8 * (b + 1) + j))) : wpY_present post (yen, ycl, yw, (nI b), xst, ym, ya, ys, yk, yv, yc, yt, rk, rv, kY, nY, en, ln, pr, sp, pk, pv, th, ss, po, so, cy, cb, cs, gt, ph, ge, gk, gv, bp, ok, ov, ob) (nI j) := by
  refine nm_r (e' := nI (8 * (b + 1) + j)) ?_ ?_
  · rw [show (8 : Int32) = nI 8 from rfl, pk_mul, nI_add, nI_add]
    exact congrArg nI (by omega)
  rw [nI_clamp (by omega)]
  refine ⟨vp_in_nI (by omega) (by decide), ?_⟩
  by_cases c : th (8 * (b + 1) + j) = 0
  · rw [if_pos c] at hp; exact br_t c hp
  · rw [if_neg c] at hp; exact br_f c hp
theorem bl_pp {j b : Nat} (hj : j < 8) (hb : b < 3) : ∃ p, p < 32 ∧ (if th (8 * (b + 1) + j) = 0 then nI j else nI (8 * (b + 1) + j)) = nI p := by
  by_cases c : th (8 * (b + 1) + j) = 0
  · exact ⟨j, by omega, if_pos c⟩
  · exact ⟨8 * (b + 1) + j, by omega, if_neg c⟩
theorem bl_x_hc (hx : ∀ i, i < d → ∃ p, p < 240 ∧ fc i = nI p) (hd : d ≤ 300) {j : Nat} (hj : j < 4) {post : Int32 → Prop} (h1 : bl_hc kX vX (bl_x fc fs fb fd fv fe kp kv) d j → post 1) (h0 : ¬ bl_hc kX vX (bl_x fc fs fb fd fv fe kp kv) d j → post 0) : wpX_hasCatch post (dl, lr, lc, xst, (nI d), xcl, xsc, xm, xa, xs, xb, xg, xe, kX, vX, df, pr, sp, pl, th, fc, fs, fb, fd, fv, fe, kp, kv, cc, cs, ss, sv, so) (nI j) := by
  have key : ∀ n l, l ≤ d → d - l < n → (∀ i, i < l → ∀ p, p < 240 → fc i = nI p → kX p = 12 → ¬ vX p = nI j) → wX_hasCatch_2 post (nI j) dl lr lc xst (nI d) xcl xsc xm xa xs xb xg xe kX vX df pr sp pl th fc fs fb fd fv fe kp kv cc cs ss sv so n (nI l) := by
    intro n
    induction n with
    | zero => intro l _ h; omega
    | succ n ih =>
      intro l h1' h2 h3
      by_cases c : l = d
      · subst c
        refine br_t (nI_le (Nat.le_refl _) (by omega)) (h0 ?_)
        rintro ⟨i, p, a1, a2, a3, a4, a5⟩
        exact h3 i a1 p a2 a3 a4 a5
      · obtain ⟨p, p1, p2⟩ := hx l (by omega)
        refine br_f (nI_ge (by omega) (by omega)) ⟨vp_in_nI (by omega) (by decide), nm_r (e' := nI p) (by rw [nI_clamp (by omega), p2]) ⟨vp_in_nI p1 (by decide), ?_⟩⟩
        rw [nI_clamp (by omega)]
        have nx : (∀ p', p' < 240 → fc l = nI p' → kX p' = 12 → ¬ vX p' = nI j) → ∀ x : Int32, x = nI l + 1 → wX_hasCatch_2 post (nI j) dl lr lc xst (nI d) xcl xsc xm xa xs xb xg xe kX vX df pr sp pl th fc fs fb fd fv fe kp kv cc cs ss sv so n x := by
          intro q
          refine nm_r (nI_1 l) (ih (l + 1) (by omega) (by omega) ?_)
          intro i hi
          by_cases e : i = l
          · subst e; exact q
          · exact h3 i (by omega)
        have uq : ∀ p', p' < 240 → fc l = nI p' → p' = p := by
          intro p' l' e
          rw [p2] at e
          exact ((nI_eq (by omega) (by omega)).mp e).symm
        by_cases k : kX p = 12
        · refine br_t k ⟨vp_in_nI p1 (by decide), ?_⟩
          by_cases w : vX p = nI j
          · exact br_t w (h1 ⟨l, p, by omega, p1, p2, k, w⟩)
          · refine br_f w (nx ?_)
            intro p' l' e _
            rw [uq p' l' e]; exact w
        · refine br_f k (nx ?_)
          intro p' l' e k'
          rw [uq p' l' e] at k'
          exact absurd k' k
  exact ⟨d + 1, key (d + 1) 0 (by omega) (by omega) (fun i hi => by omega)⟩
end
