theorem zb_one (i : Nat) : bt 1 i = decide (i = 0) := by
  rcases Nat.lt_or_ge i 32 with h | h
  · exact (by decide +kernel : ∀ i, i < 32 → bt 1 i = decide (i = 0)) i h
  · rw [b_big h, decide_eq_false (by omega)]
theorem zb_sh {n i : Nat} (hn : n < 32) (hi : i < 32) : bt ((1 : Int32) <<< (nI n &&& 31)) i = decide (i = n) := by
  rw [b_shl n hn 1 hi, zb_one]
  by_cases h : i = n
  · subst h; simp
  · rw [decide_eq_false h]
    by_cases h2 : n ≤ i
    · rw [decide_eq_false (by omega : ¬ i - n = 0)]; simp
    · rw [decide_eq_false h2]; simp
theorem zb_add {x : Int32} {n : Nat} (hn : n < 32) (h : ∀ i, n ≤ i → bt x i = false) : x + ((1 : Int32) <<< (nI n &&& 31)) = x ||| ((1 : Int32) <<< (nI n &&& 31)) := by
  apply Int32.toBitVec_inj.mp
  rw [Int32.toBitVec_add, Int32.toBitVec_or]
  apply BitVec.add_eq_or_of_and_eq_zero
  apply BitVec.eq_of_getLsbD_eq
  intro i hi
  rw [BitVec.getLsbD_and, BitVec.getLsbD_zero]
  show (bt x i && bt ((1 : Int32) <<< (nI n &&& 31)) i) = false
  rw [zb_sh hn hi]
  by_cases e : i = n
  · subst e; rw [h i (Nat.le_refl _)]; rfl
  · rw [decide_eq_false e, Bool.and_false]
section
variable {tc ob ps su ep sd bc mA mB oX oY gY wD pC sC yt yo yh yi ya ye yp ys yc nw gn bg wd : Int32} {tk tv cb sk sv vk vv bp br bh bn bs bl px py pm cr sn sx sy sm sp dg hw fr og lf st la fm fc gr wi mn qx qy ss cl cp nx ny : Nat → Int32}
theorem y_clip_l {post : Int32 → Prop} {j : Nat} {r : Int32} (hj : j < 24) (hC : ∀ i, i < 24 → bt r i = decide (cp (24 * j + i) ≠ 0)) (hr : ∀ i, 24 ≤ i → bt r i = false) (k : post r) :
    ∀ (d i : Nat) (x : Int32), i + d = 24 → (∀ b, bt x b = (decide (b < i) && bt r b)) → wY_clip_4 post (nI j) yt yo yh yi ya ye yp ys yc nw gn bg wd tk tv dg sk sv vk vv hw fr og lf st la fm fc gr wi mn qx qy ss cl cp nx ny (d + 1) x (nI i) := by
  intro d
  induction d with
  | zero =>
    intro i x hi hx
    have e : x = r := b_ext (fun b hb => by
      rw [hx b]
      by_cases h : b < i
      · rw [decide_eq_true h, Bool.true_and]
      · rw [hr b (by omega), Bool.and_false])
    subst e
    exact ql_t 24 i (by omega) k
  | succ d ih =>
    intro i x hi hx
    refine ql_f 24 i (by omega) (qs_f j 0 (by omega) (ql_f 24 j hj ?_))
    rw [zd_in (i := i) (by omega) hj, zc_i (n := 24 * j + i) (by omega)]
    refine ⟨vp_in_nI (by omega) (by omega), br_c (fun e => nm_r (nI_1 i) (ih (i + 1) _ (by omega) (fun b => ?_))) (fun e => nm_e (nm_r (nI_1 i) (ih (i + 1) _ (by omega) (fun b => ?_))))⟩
    · rw [hx b]
      by_cases hb : b = i
      · subst hb
        rw [hC b (by omega)]
        simp [e]
      · by_cases h2 : b < i
        · rw [decide_eq_true h2, decide_eq_true (by omega : b < i + 1)]
        · rw [decide_eq_false h2, decide_eq_false (by omega : ¬ b < i + 1)]
    · rw [zb_add (by omega) (fun q hq => by rw [hx q, decide_eq_false (by omega), Bool.false_and]), b_or, hx b]
      rcases Nat.lt_or_ge b 32 with h32 | h32
      · rw [zb_sh (by omega) h32]
        by_cases hb : b = i
        · subst hb
          rw [hC b (by omega), decide_eq_true e, decide_eq_true (by omega : b < b + 1)]
          simp
        · by_cases h2 : b < i
          · rw [decide_eq_true h2, decide_eq_true (by omega : b < i + 1), decide_eq_false hb]; simp
          · rw [decide_eq_false h2, decide_eq_false (by omega : ¬ b < i + 1), decide_eq_false hb]; simp
      · rw [b_big h32, b_big h32]; simp
end
theorem i_vc_clip {k : Nat} {u : SX} {v : SY} (I : i_Rel k u v) (hk : k + 3 ≤ 1536) (v1 : Int32) : wpX_clip (fun r => wpY_clip (fun r' => r' = r ∧ i_Rel (k + 3) u v) v v1) u v1 := by
  have I2 := I
  obtain ⟨tc, ob, ps, su, ep, sd, bc, mA, mB, oX, oY, gY, wD, pC, sC, tk, tv, cb, sk, sv, vk, vv, bp, br, bh, bn, bs, bl, px, py, pm, cr, sn, sx, sy, sm, sp, dg⟩ := u
  obtain ⟨yt, yo, yh, yi, ya, ye, yp, ys, yc, nw, gn, bg, wd, tk', tv', dg', sk', sv', vk', vv', hw, fr, og, lf, st, la, fm, fc, gr, wi, mn, qx, qy, ss, cl, cp, nx, ny⟩ := v
  obtain ⟨⟨t, o, h, _, _, _, hT, _, hC⟩, _⟩ := I
  rcases pk_ix v1 (n := 24) (by omega) with h1 | h1 | ⟨j, hj, rfl⟩
  · exact br_t h1 ⟨1, ql_f 24 0 (by omega) (br_t h1 ⟨rfl, I2⟩)⟩
  · have h0 : ¬ v1 < 0 := Int32.not_lt.mpr (Int32.le_trans (nI_pos' (by omega)) h1)
    exact br_f h0 (br_t h1 ⟨1, ql_f 24 0 (by omega) (br_f h0 (br_t h1 ⟨rfl, I2⟩))⟩)
  · refine qs_f j 0 (by omega) (ql_f 24 j hj ⟨vp_in_nI (by omega) (by omega), ?_⟩)
    rw [zc_i (by omega)]
    exact ⟨25, y_clip_l hj (fun i hi => ((hC j hj).1 i hi).2) (hC j hj).2 ⟨rfl, I2⟩ 24 0 0 rfl (fun b => by rw [b_0, decide_eq_false (by omega), Bool.false_and])⟩
theorem zft_le (ss : Nat → Int32) (k : Nat) : Zft ss k ≤ k := by
  induction k with
  | zero => exact Nat.le_refl _
  | succ k ih =>
    unfold Zft
    split <;> omega
theorem zft_0 {ss : Nat → Int32} {k : Nat} (h : ss (k + 1) = 0) : Zft ss (k + 1) = Zft ss k := by
  show (if ss (k + 1) = 0 then Zft ss k else k + 1) = _
  rw [if_pos h]
theorem zft_s {ss : Nat → Int32} {k : Nat} (h : ss k ≠ 0) : Zft ss k = k := by
  cases k with
  | zero => rfl
  | succ k =>
    show (if ss (k + 1) = 0 then Zft ss k else k + 1) = _
    rw [if_neg h]
theorem zft_ne {ss : Nat → Int32} (h : ss 0 ≠ 0) (k : Nat) : ss (Zft ss k) ≠ 0 := by
  induction k with
  | zero => exact h
  | succ k ih =>
    by_cases e : ss (k + 1) = 0
    · rw [zft_0 e]; exact ih
    · rw [zft_s e]; exact e
section
variable {tc ob ps su ep sd bc mA mB oX oY gY wD pC sC yt yo yh yi ya ye yp ys yc nw gn bg wd : Int32} {tk tv cb sk sv vk vv bp br bh bn bs bl px py pm cr sn sx sy sm sp dg hw fr og lf st la fm fc gr wi mn qx qy ss cl cp nx ny : Nat → Int32}
theorem y_corner_l {post : Int32 → Prop} {x1 : Int32} (h0 : ss 0 ≠ 0) (j : Nat) (hj : j < 240) (k : ∀ m, m = Zft ss j → vp_in x1 240 ∧ (((ss x1.toNatClampNeg) = 0 → wY_corner_83 post (nI m) 0 yt yo yh yi ya ye yp ys yc nw gn bg wd tk tv dg sk sv vk vv hw fr og lf st la fm fc gr wi mn qx qy ss cl cp nx ny) ∧ (¬ (ss x1.toNatClampNeg) = 0 → wY_corner_83 post (nI m) 1 yt yo yh yi ya ye yp ys yc nw gn bg wd tk tv dg sk sv vk vv hw fr og lf st la fm fc gr wi mn qx qy ss cl cp nx ny))) : wY_corner_54 post x1 yt yo yh yi ya ye yp ys yc nw gn bg wd tk tv dg sk sv vk vv hw fr og lf st la fm fc gr wi mn qx qy ss cl cp nx ny (j + 1) (nI j) := by
  induction j with
  | zero =>
    refine ⟨vp_in_nI (by omega) (by omega), ?_⟩
    rw [zc_i (by omega)]
    exact br_f h0 (k 0 rfl)
  | succ j ih =>
    refine ⟨vp_in_nI (by omega) (by omega), ?_⟩
    rw [zc_i (n := j + 1) (by omega)]
    refine br_c (fun e => nm_r (pk_m1 j) (ih (by omega) (fun m hm => k m (by rw [zft_0 e]; exact hm)))) (fun e => ?_)
    exact k (j + 1) (zft_s e).symm
end
theorem i_vc_corner {k : Nat} {u : SX} {v : SY} (I : i_Rel k u v) (hk : k + 3 ≤ 1536) (v1 : Int32) (v2 : Int32) : wpX_corner (fun r => wpY_corner (fun r' => r' = r ∧ i_Rel (k + 3) u v) v v1 v2) u v1 v2 := by
  have I2 := I
  obtain ⟨tc, ob, ps, su, ep, sd, bc, mA, mB, oX, oY, gY, wD, pC, sC, tk, tv, cb, sk, sv, vk, vv, bp, br, bh, bn, bs, bl, px, py, pm, cr, sn, sx, sy, sm, sp, dg⟩ := u
  obtain ⟨yt, yo, yh, yi, ya, ye, yp, ys, yc, nw, gn, bg, wd, tk', tv', dg', sk', sv', vk', vv', hw, fr, og, lf, st, la, fm, fc, gr, wi, mn, qx, qy, ss, cl, cp, nx, ny⟩ := v
  obtain ⟨⟨t, o, h, _, _, _, hT, ⟨pc, rfl, hm, hP⟩, hC⟩, _⟩ := I
  have hpc := hP.1
  rcases pk_ix v1 (n := pc) (by omega) with h1 | h1 | ⟨j, hj, rfl⟩
  · exact br_t h1 (br_t h1 ⟨rfl, I2⟩)
  · have h0 : ¬ v1 < 0 := Int32.not_lt.mpr (Int32.le_trans (nI_pos' (by omega)) h1)
    exact br_f h0 (br_f (Int32.not_lt.mpr h1) (br_f h0 (br_t (by rw [hm]; exact h1) ⟨rfl, I2⟩)))
  · obtain ⟨p1, p2, p3, p4, p5, _⟩ := hP.2.2 j hj
    have hb : ¬ mn 0 ≤ nI j := by rw [hm]; exact nI_ge hj (by omega)
    have e : (nI j).toNatClampNeg = j := zc_i (by omega)
    have hi8 : vp_in (nI j) 48 := vp_in_nI (by omega) (by omega)
    have hi2 : vp_in (nI j) 240 := vp_in_nI (by omega) (by omega)
    refine qs_f j 0 (by omega) (qs_t j pc hj ?_)
    rcases pk_ix v2 (n := 3) (by omega) with g1 | g1 | ⟨w, hw, rfl⟩
    · exact br_t g1 (qs_f j 0 (by omega) (br_f hb (br_t g1 ⟨rfl, I2⟩)))
    · have g0 : ¬ v2 < 0 := Int32.not_lt.mpr (Int32.le_trans (nI_pos' (by omega)) g1)
      have g2 : (2 : Int32) < v2 := Int32.lt_of_lt_of_le (by decide : (2 : Int32) < nI 3) g1
      exact br_f g0 (br_t g2 (qs_f j 0 (by omega) (br_f hb (br_f g0 (br_f (Int32.not_le.mpr g2) ⟨rfl, I2⟩)))))
    · have hw3 : w = 0 ∨ w = 1 ∨ w = 2 := by omega
      rcases hw3 with rfl | rfl | rfl
      · refine br_f (by decide) (br_f (by decide) (br_t (by decide) ⟨hi8, ?_⟩))
        rw [e]
        refine qs_f j 0 (by omega) (br_f hb (br_f (by decide) (br_t (by decide) (br_f (by decide) (br_t (by decide) ⟨hi2, ?_⟩)))))
        rw [e]
        exact ⟨p1, I2⟩
      · refine br_f (by decide) (br_f (by decide) (br_f (by decide) (br_t (by decide) ⟨hi8, ?_⟩)))
        rw [e]
        refine qs_f j 0 (by omega) (br_f hb (br_f (by decide) (br_t (by decide) (br_f (by decide) (br_f (by decide) ⟨hi2, ?_⟩)))))
        rw [e]
        exact ⟨p2, I2⟩
      · refine br_f (by decide) (br_f (by decide) (br_f (by decide) (br_f (by decide) (br_t (by decide) ⟨hi8, ?_⟩))))
        rw [e]
        refine qs_f j 0 (by omega) (br_f hb (br_f (by decide) (br_t (by decide) (br_t (by decide) ⟨j + 1, y_corner_l (hP.2.1 (by omega)) j (by omega) (fun m hm' => ⟨hi2, ?_⟩)⟩))))
        have hml : m ≤ j := by rw [hm']; exact zft_le ss j
        have em : (nI m).toNatClampNeg = m := zc_i (by omega)
        have hmi : vp_in (nI m) 240 := vp_in_nI (by omega) (by omega)
        rw [e]
        rw [← hm'] at p5
        refine br_c (fun s0 => ⟨hmi, ?_⟩) (fun s0 => ⟨hmi, ?_⟩)
        · rw [em]
          refine br_c (fun c0 => ⟨?_, I2⟩) (fun c0 => ⟨?_, I2⟩)
          · rw [p5]; unfold Zmk; rw [if_pos s0, if_pos c0]
          · rw [p5]; unfold Zmk; rw [if_pos s0, if_neg c0]
        · rw [em]
          refine br_c (fun c0 => ⟨?_, I2⟩) (fun c0 => ⟨?_, I2⟩)
          · rw [p5]; unfold Zmk; rw [if_neg s0, if_pos c0]
          · rw [p5]; unfold Zmk; rw [if_neg s0, if_neg c0]
theorem i_vc_drop {k : Nat} {u : SX} {v : SY} (I : i_Rel k u v) (hk : k + 3 ≤ 1536) : wpX_drop (fun r u' => wpY_drop (fun r' v' => r' = r ∧ i_Rel (k + 3) u' v') v) u := by
  obtain ⟨tc, ob, ps, su, ep, sd, bc, mA, mB, oX, oY, gY, wD, pC, sC, tk, tv, cb, sk, sv, vk, vv, bp, br, bh, bn, bs, bl, px, py, pm, cr, sn, sx, sy, sm, sp, dg⟩ := u
  obtain ⟨yt, yo, yh, yi, ya, ye, yp, ys, yc, nw, gn, bg, wd, tk', tv', dg', sk', sv', vk', vv', hw, fr, og, lf, st, la, fm, fc, gr, wi, mn, qx, qy, ss, cl, cp, nx, ny⟩ := v
  obtain ⟨⟨t, o, h, ⟨rfl, rfl, rfl, h24⟩, ⟨rfl, rfl, rfl, rfl⟩, ⟨rfl, rfl, rfl, rfl, rfl, rfl, rfl⟩, hT, hP, hC⟩, hep⟩ := I
  exact ⟨rfl, ⟨0, 0, h, ⟨rfl, rfl, rfl, h24⟩, ⟨rfl, rfl, rfl, rfl⟩, ⟨rfl, rfl, rfl, rfl, rfl, rfl, rfl⟩, tk_0 _ _ _, hP, hC⟩, hep⟩
section
variable {tc ob ps su ep sd bc mA mB oX oY gY wD pC sC yt yo yh yi ya ye yp ys yc nw gn bg wd : Int32} {tk tv cb sk sv vk vv bp br bh bn bs bl px py pm cr sn sx sy sm sp dg hw fr og lf st la fm fc gr wi mn qx qy ss cl cp nx ny : Nat → Int32}
theorem x_cLB_l {post : SX → Prop} {p : Nat} (h2 : tk p = 2) (hc : cb p < 0) (hp : p < 100) (k : post (tc, ob - 1, ps, su, ep, sd, bc, mA, mB, oX, oY, gY, wD, pC, sC, tk, tv, upd cb p tc, sk, sv, vk, vv, bp, br, bh, bn, bs, bl, px, py, pm, cr, sn, sx, sy, sm, sp, dg)) :
    ∀ d, p + d < 100 → (∀ q, p < q → q ≤ p + d → tk q = 2 → ¬ cb q < 0) → wX_closeLatestBrace_7 post tc ob ps su ep sd bc mA mB oX oY gY wD pC sC tk tv cb sk sv vk vv bp br bh bn bs bl px py pm cr sn sx sy sm sp dg (d + 1) (nI (p + d)) := by
  intro d
  induction d with
  | zero =>
    intro _ _
    refine qs_f p 0 (by omega) ⟨vp_in_nI (by omega) (by omega), ?_⟩
    show (((tk (nI p).toNatClampNeg) = 2 → _) ∧ _)
    have e : (nI p).toNatClampNeg = p := zc_i (by omega)
    refine br_t (by rw [e]; exact h2) ⟨vp_in_nI (by omega) (by omega), br_f (by rw [show (nI (p + 0)).toNatClampNeg = p from e]; exact Int32.not_le.mpr hc) ⟨vp_in_nI (by omega) (by omega), nm_r (congrArg (fun q => upd cb q tc) e) (nm_e k)⟩⟩
  | succ d ih =>
    intro hd hq
    have e : (nI (p + (d + 1))).toNatClampNeg = p + (d + 1) := zc_i (by omega)
    refine qs_f (p + (d + 1)) 0 (by omega) ⟨vp_in_nI (by omega) (by omega), br_c (fun hk => ⟨vp_in_nI (by omega) (by omega), br_t ?_ (nm_r (pk_m1 (p + d)) (ih (by omega) (fun q h1 h3 => hq q h1 (by omega))))⟩) (fun _ => nm_r (pk_m1 (p + d)) (ih (by omega) (fun q h1 h3 => hq q h1 (by omega))))⟩
    rw [e] at hk ⊢
    exact Int32.not_lt.mp (hq _ (by omega) (by omega) hk)
theorem x_tokA {post : Int32 → SX → Prop} {kd v : Int32} {t : Nat} (ht : t < 100) (h2 : kd ≠ 2) (h3 : kd ≠ 3) (k : post 1 (nI (t + 1), ob, ps, su, ep, sd, bc, mA, mB, oX, oY, gY, wD, pC, sC, upd tk t kd, upd tv t v, upd cb t (-1), sk, sv, vk, vv, bp, br, bh, bn, bs, bl, px, py, pm, cr, sn, sx, sy, sm, sp, dg)) : wX_token_33 post kd v (nI t) ob ps su ep sd bc mA mB oX oY gY wD pC sC tk tv cb sk sv vk vv bp br bh bn bs bl px py pm cr sn sx sy sm sp dg := by
  have hi : vp_in (nI t) 100 := vp_in_nI ht (by omega)
  have e : (nI t).toNatClampNeg = t := zc_i (by omega)
  exact ⟨hi, nm_r (congrArg (fun q => upd tk q kd) e) ⟨hi, nm_r (congrArg (fun q => upd tv q v) e) ⟨hi, nm_r (congrArg (fun q => upd cb q (-1)) e) (br_f h2 (br_f h3 (nm_r (nI_1 t) k)))⟩⟩⟩
theorem x_tokB {post : Int32 → SX → Prop} {v : Int32} {t o : Nat} (ht : t < 100) (k : post 1 (nI (t + 1), nI (o + 1), ps, su, ep, sd, bc, mA, mB, oX, oY, gY, wD, pC, sC, upd tk t 2, upd tv t v, upd cb t (-1), sk, sv, vk, vv, bp, br, bh, bn, bs, bl, px, py, pm, cr, sn, sx, sy, sm, sp, dg)) : wX_token_33 post 2 v (nI t) (nI o) ps su ep sd bc mA mB oX oY gY wD pC sC tk tv cb sk sv vk vv bp br bh bn bs bl px py pm cr sn sx sy sm sp dg := by
  have hi : vp_in (nI t) 100 := vp_in_nI ht (by omega)
  have e : (nI t).toNatClampNeg = t := zc_i (by omega)
  exact ⟨hi, nm_r (congrArg (fun q => upd tk q 2) e) ⟨hi, nm_r (congrArg (fun q => upd tv q v) e) ⟨hi, nm_r (congrArg (fun q => upd cb q (-1)) e) (br_t rfl (nm_r (nI_1 o) (br_f (by decide) (nm_r (nI_1 t) k))))⟩⟩⟩
theorem x_tokC {post : Int32 → SX → Prop} {v : Int32} {t o p : Nat} (ht : t < 100) (hp : p < t) (h2 : tk p = 2) (hc : cb p < 0) (hq : ∀ q, p < q → q < t → tk q = 2 → ¬ cb q < 0)
    (k : post 1 (nI (t + 1), nI o, ps, su, ep, sd, bc, mA, mB, oX, oY, gY, wD, pC, sC, upd tk t 3, upd tv t v, upd (upd cb t (-1)) p (nI t), sk, sv, vk, vv, bp, br, bh, bn, bs, bl, px, py, pm, cr, sn, sx, sy, sm, sp, dg)) : wX_token_33 post 3 v (nI t) (nI (o + 1)) ps su ep sd bc mA mB oX oY gY wD pC sC tk tv cb sk sv vk vv bp br bh bn bs bl px py pm cr sn sx sy sm sp dg := by
  have hi : vp_in (nI t) 100 := vp_in_nI ht (by omega)
  have e : (nI t).toNatClampNeg = t := zc_i (by omega)
  refine ⟨hi, nm_r (congrArg (fun q => upd tk q 3) e) ⟨hi, nm_r (congrArg (fun q => upd tv q v) e) ⟨hi, nm_r (congrArg (fun q => upd cb q (-1)) e) (br_f (by decide) (br_t rfl ?_))⟩⟩⟩
  obtain ⟨d, rfl⟩ : ∃ d, t = p + d + 1 := ⟨t - p - 1, by omega⟩
  refine nm_r (nI_pred (p + d)) ⟨d + 1, x_cLB_l (p := p) (by rw [pk_un (by omega)]; exact h2) (by rw [pk_un (by omega)]; exact hc) (by omega) ?_ d (by omega) (fun q h1 h3 => ?_)⟩
  · rw [nI_pred]
    exact nm_r (nI_1 (p + d + 1)) k
  · rw [pk_un (by omega), pk_un (by omega)]
    exact hq q h1 (by omega)
theorem y_tokA {post : Int32 → SY → Prop} {kd v : Int32} {t : Nat} (ht : t < 100) (h2 : kd ≠ 2) (h3 : kd ≠ 3) (k : post 1 (nI (t + 1), yo, yh, yi, ya, ye, yp, ys, yc, nw, gn, bg, wd, upd tk t kd, upd tv t v, dg, sk, sv, vk, vv, hw, fr, og, lf, st, la, fm, fc, gr, wi, mn, qx, qy, ss, cl, cp, nx, ny)) : wY_token_64 post kd v (nI t) yo yh yi ya ye yp ys yc nw gn bg wd tk tv dg sk sv vk vv hw fr og lf st la fm fc gr wi mn qx qy ss cl cp nx ny := by
  have hi : vp_in (nI t) 100 := vp_in_nI ht (by omega)
  have e : (nI t).toNatClampNeg = t := zc_i (by omega)
  exact ⟨hi, nm_r (congrArg (fun q => upd tk q kd) e) ⟨hi, nm_r (congrArg (fun q => upd tv q v) e) (nm_r (nI_1 t) (br_f h2 (br_f h3 (nm_r (Int32.add_zero yo) k))))⟩⟩
theorem y_tokB {post : Int32 → SY → Prop} {v : Int32} {t o : Nat} (ht : t < 100) (k : post 1 (nI (t + 1), nI (o + 1), yh, yi, ya, ye, yp, ys, yc, nw, gn, bg, wd, upd tk t 2, upd tv t v, dg, sk, sv, vk, vv, hw, fr, og, lf, st, la, fm, fc, gr, wi, mn, qx, qy, ss, cl, cp, nx, ny)) : wY_token_64 post 2 v (nI t) (nI o) yh yi ya ye yp ys yc nw gn bg wd tk tv dg sk sv vk vv hw fr og lf st la fm fc gr wi mn qx qy ss cl cp nx ny := by
  have hi : vp_in (nI t) 100 := vp_in_nI ht (by omega)
  have e : (nI t).toNatClampNeg = t := zc_i (by omega)
  exact ⟨hi, nm_r (congrArg (fun q => upd tk q 2) e) ⟨hi, nm_r (congrArg (fun q => upd tv q v) e) (nm_r (nI_1 t) (br_t rfl (nm_r (nI_1 o) k)))⟩⟩
theorem y_tokC {post : Int32 → SY → Prop} {v : Int32} {t o : Nat} (ht : t < 100) (k : post 1 (nI (t + 1), nI o, yh, yi, ya, ye, yp, ys, yc, nw, gn, bg, wd, upd tk t 3, upd tv t v, dg, sk, sv, vk, vv, hw, fr, og, lf, st, la, fm, fc, gr, wi, mn, qx, qy, ss, cl, cp, nx, ny)) : wY_token_64 post 3 v (nI t) (nI (o + 1)) yh yi ya ye yp ys yc nw gn bg wd tk tv dg sk sv vk vv hw fr og lf st la fm fc gr wi mn qx qy ss cl cp nx ny := by
  have hi : vp_in (nI t) 100 := vp_in_nI ht (by omega)
  have e : (nI t).toNatClampNeg = t := zc_i (by omega)
  exact ⟨hi, nm_r (congrArg (fun q => upd tk q 3) e) ⟨hi, nm_r (congrArg (fun q => upd tv q v) e) (nm_r (nI_1 t) (br_f (by decide) (br_t rfl (nm_r (pk_m1 o) k))))⟩⟩
end
theorem i_vc_token {k : Nat} {u : SX} {v : SY} (I : i_Rel k u v) (hk : k + 3 ≤ 1536) (v1 : Int32) (v2 : Int32) : wpX_token (fun r u' => wpY_token (fun r' v' => r' = r ∧ i_Rel (k + 3) u' v') v v1 v2) u v1 v2 := by
  have I2 := I
  obtain ⟨tc, ob, ps, su, ep, sd, bc, mA, mB, oX, oY, gY, wD, pC, sC, tk, tv, cb, sk, sv, vk, vv, bp, br, bh, bn, bs, bl, px, py, pm, cr, sn, sx, sy, sm, sp, dg⟩ := u
  obtain ⟨yt, yo, yh, yi, ya, ye, yp, ys, yc, nw, gn, bg, wd, tk', tv', dg', sk', sv', vk', vv', hw, fr, og, lf, st, la, fm, fc, gr, wi, mn, qx, qy, ss, cl, cp, nx, ny⟩ := v
  obtain ⟨⟨t, o, h, ⟨rfl, rfl, rfl, h24⟩, ⟨rfl, rfl, rfl, rfl⟩, ⟨rfl, rfl, rfl, rfl, rfl, rfl, rfl⟩, hT, hP, hC⟩, hep⟩ := I
  have ht := hT.1
  have ho := tk_ob hT
  have ok : ∀ (t' o' : Nat) (tk2 tv2 cb2 : Nat → Int32), ZTK t' o' tk2 tv2 cb2 → ZI (nI t', nI o', ps, ys, ep, nI h, bc, mA, mB, oX, oY, gY, wD, pC, sC, tk2, tv2, cb2, sk', sv', vk', vv', bp, br, bh, bn, bs, bl, px, py, pm, cr, sn, sx, sy, sm, sp, dg') (nI t', nI o', nI h, yi, ya, ye, yp, ys, yc, nw, gn, bg, wd, tk2, tv2, dg', sk', sv', vk', vv', hw, fr, og, lf, st, la, fm, fc, gr, wi, mn, qx, qy, ss, cl, cp, nx, ny) :=
    fun t' o' tk2 tv2 cb2 hT' => ⟨⟨t', o', h, ⟨rfl, rfl, rfl, h24⟩, ⟨rfl, rfl, rfl, rfl⟩, ⟨rfl, rfl, rfl, rfl, rfl, rfl, rfl⟩, hT', hP, hC⟩, hep⟩
  by_cases h100 : t = 100
  · subst h100
    refine ql_t 100 100 (by omega) (br_c (fun _ => ⟨rfl, I2⟩) (fun _ => br_c (fun _ => ⟨rfl, I2⟩) (fun _ => br_t rfl ⟨rfl, I2⟩)))
  · have hy : ¬ nI t = 100 := fun z => h100 ((nI_eq (b := 100) (by omega) (by omega)).mp z)
    refine ql_f 100 t (by omega) ?_
    rcases pk_ix v1 (n := 6) (by omega) with h1 | h1 | ⟨j, hj, rfl⟩
    · exact br_t h1 (br_t rfl (br_t h1 ⟨rfl, I2⟩))
    · have h0 : ¬ v1 < 0 := Int32.not_lt.mpr (Int32.le_trans (nI_pos' (by omega)) h1)
      have h5 : (5 : Int32) < v1 := Int32.lt_of_lt_of_le (by decide : (5 : Int32) < nI 6) h1
      exact br_f h0 (br_t h5 (br_t rfl (br_f h0 (br_t h5 ⟨rfl, I2⟩))))
    · have hj6 : j = 0 ∨ j = 1 ∨ j = 2 ∨ j = 3 ∨ j = 4 ∨ j = 5 := by omega
      have ny : ¬ (1 : Int32) = 0 := by decide
      rcases hj6 with rfl | rfl | rfl | rfl | rfl | rfl
      · refine br_f (by decide) (br_f (by decide) (br_t (by decide) (br_f ny (br_f (by decide) (x_tokA (by omega) (by decide) (by decide) ?_)))))
        refine br_f (by decide) (br_f (by decide) (br_f hy (br_f (by decide) (br_f (by decide) (br_t (by decide) (y_tokA (by omega) (by decide) (by decide) ⟨rfl, ?_⟩))))))
        exact ok _ _ _ _ _ (tk_add hT (by omega) (Or.inl rfl) (by decide) (by decide))
      · refine br_f (by decide) (br_f (by decide) (br_f (by decide) (br_t (by decide) ?_)))
        rcases pk_ix v2 (n := 45) (by omega) with g1 | g1 | ⟨w, hw, rfl⟩
        · exact br_t g1 (br_t rfl (br_f (by decide) (br_f (by decide) (br_f hy (br_f (by decide) (br_t (by decide) (br_t g1 ⟨rfl, I2⟩)))))))
        · have g0 : ¬ v2 < 0 := Int32.not_lt.mpr (Int32.le_trans (nI_pos' (by omega)) g1)
          have g5 : (44 : Int32) < v2 := Int32.lt_of_lt_of_le (by decide : (44 : Int32) < nI 45) g1
          exact br_f g0 (br_t g5 (br_t rfl (br_f (by decide) (br_f (by decide) (br_f hy (br_f (by decide) (br_t (by decide) (br_f g0 (br_t g5 ⟨rfl, I2⟩)))))))))
        · have g0 : ¬ nI w < 0 := nI_pos (by omega)
          have g5 : ¬ (44 : Int32) < nI w := nI_nlt (b := w) (a := 44) (by omega) (by omega)
          refine br_f g0 (br_f g5 (br_f ny (br_f (by decide) (x_tokA (by omega) (by decide) (by decide) ?_))))
          refine br_f (by decide) (br_f (by decide) (br_f hy (br_f (by decide) (br_t (by decide) (br_f g0 (br_f g5 (br_t (by decide) (y_tokA (by omega) (by decide) (by decide) ⟨rfl, ?_⟩))))))))
          exact ok _ _ _ _ _ (tk_add hT (by omega) (Or.inr (Or.inl ⟨rfl, w, hw, rfl⟩)) (by decide) (by decide))
      · refine br_f (by decide) (br_f (by decide) (br_f (by decide) (br_f (by decide) (br_t (by decide) (br_f ny (br_f (by decide) (x_tokB (by omega) ?_)))))))
        refine br_f (by decide) (br_f (by decide) (br_f hy (br_f (by decide) (br_f (by decide) (br_t (by decide) (y_tokB (by omega) ⟨rfl, ?_⟩))))))
        exact ok _ _ _ _ _ (tk_beg hT (by omega))
      · refine br_f (by decide) (br_f (by decide) (br_f (by decide) (br_f (by decide) (br_f (by decide) (br_t (by decide) (br_f ny (br_t (by decide) ?_)))))))
        by_cases ho0 : o = 0
        · subst ho0
          exact br_t rfl (br_f (by decide) (br_f (by decide) (br_f hy (br_t (by decide) (br_t rfl ⟨rfl, I2⟩)))))
        · obtain ⟨o', rfl⟩ : ∃ o', o = o' + 1 := ⟨o - 1, by omega⟩
          have hne : ¬ nI (o' + 1) = 0 := nI_ne0 (by omega) (by omega)
          obtain ⟨p, hp, hp2, hp3, hp4, hT'⟩ := tk_close (v := v2) hT (by omega)
          refine br_f hne (x_tokC (by omega) hp hp2 hp3 hp4 ?_)
          refine br_f (by decide) (br_f (by decide) (br_f hy (br_t (by decide) (br_f hne (br_f (by decide) (br_t (by decide) (y_tokC (by omega) ⟨rfl, ?_⟩)))))))
          exact ok _ _ _ _ _ hT'
      · refine br_f (by decide) (br_f (by decide) (br_f (by decide) (br_f (by decide) (br_f (by decide) (br_f (by decide) (br_t (by decide) ?_))))))
        rcases pk_ix v2 (n := 8) (by omega) with g1 | g1 | ⟨w, hw, rfl⟩
        · exact br_t g1 (br_t rfl (br_f (by decide) (br_f (by decide) (br_f hy (br_f (by decide) (br_f (by decide) (br_f (by decide) (br_t g1 ⟨rfl, I2⟩))))))))
        · have g0 : ¬ v2 < 0 := Int32.not_lt.mpr (Int32.le_trans (nI_pos' (by omega)) g1)
          have g5 : ¬ v2 ≤ (7 : Int32) := Int32.not_le.mpr (Int32.lt_of_lt_of_le (by decide : (7 : Int32) < nI 8) g1)
          exact br_f g0 (br_t g1 (br_t rfl (br_f (by decide) (br_f (by decide) (br_f hy (br_f (by decide) (br_f (by decide) (br_f (by decide) (br_f g0 (br_f g5 ⟨rfl, I2⟩))))))))))
        · have g0 : ¬ nI w < 0 := nI_pos (by omega)
          have g8 : ¬ (8 : Int32) ≤ nI w := nI_ge (b := 8) hw (by decide)
          refine br_f g0 (br_f g8 (br_f ny (br_f (by decide) (x_tokA (by omega) (by decide) (by decide) ?_))))
          refine br_f (by decide) (br_f (by decide) (br_f hy (br_f (by decide) (br_f (by decide) (br_f (by decide) (br_f g0 (ql_t w 7 (by omega) (y_tokA (by omega) (by decide) (by decide) ⟨rfl, ?_⟩))))))))
          exact ok _ _ _ _ _ (tk_add hT (by omega) (Or.inr (Or.inr (Or.inr (Or.inr (Or.inl ⟨rfl, w, hw, rfl⟩))))) (by decide) (by decide))
      · refine br_f (by decide) (br_f (by decide) (br_f (by decide) (br_f (by decide) (br_f (by decide) (br_f (by decide) (br_f (by decide) (br_t (by decide) ?_)))))))
        rcases pk_ix v2 (n := 8) (by omega) with g1 | g1 | ⟨w, hw, rfl⟩
        · exact br_t g1 (br_t rfl (br_f (by decide) (br_f (by decide) (br_f hy (br_f (by decide) (br_f (by decide) (br_f (by decide) (br_t g1 ⟨rfl, I2⟩))))))))
        · have g0 : ¬ v2 < 0 := Int32.not_lt.mpr (Int32.le_trans (nI_pos' (by omega)) g1)
          have g5 : ¬ v2 ≤ (7 : Int32) := Int32.not_le.mpr (Int32.lt_of_lt_of_le (by decide : (7 : Int32) < nI 8) g1)
          exact br_f g0 (br_t g1 (br_t rfl (br_f (by decide) (br_f (by decide) (br_f hy (br_f (by decide) (br_f (by decide) (br_f (by decide) (br_f g0 (br_f g5 ⟨rfl, I2⟩))))))))))
        · have g0 : ¬ nI w < 0 := nI_pos (by omega)
          have g8 : ¬ (8 : Int32) ≤ nI w := nI_ge (b := 8) hw (by decide)
          refine br_f g0 (br_f g8 (br_f ny (br_f (by decide) (x_tokA (by omega) (by decide) (by decide) ?_))))
          refine br_f (by decide) (br_f (by decide) (br_f hy (br_f (by decide) (br_f (by decide) (br_f (by decide) (br_f g0 (ql_t w 7 (by omega) (y_tokA (by omega) (by decide) (by decide) ⟨rfl, ?_⟩))))))))
          exact ok _ _ _ _ _ (tk_add hT (by omega) (Or.inr (Or.inr (Or.inr (Or.inr (Or.inr ⟨rfl, w, hw, rfl⟩))))) (by decide) (by decide))
