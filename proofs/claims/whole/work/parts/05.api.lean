section
variable {tc ob ps su ep sd bc mA mB oX oY gY wD pC sC yt yo yh yi ya ye yp ys yc nw gn bg wd : Int32} {tk tv cb sk sv vk vv bp br bh bn bs bl px py pm cr sn sx sy sm sp dg hw fr og lf st la fm fc gr wi mn qx qy ss cl cp nx ny : Nat → Int32}
/-! ===== the beginnings ===== -/
theorem x_openClip_l {post : SX → Prop} : ∀ (d j : Nat) (cr : Nat → Int32), j + d = 24 → post (tc, ob, ps, su, ep, sd, bc, mA, mB, oX, oY, gY, wD, pC, sC, tk, tv, cb, sk, sv, vk, vv, bp, br, bh, bn, bs, bl, px, py, pm, zf cr j 24 (fun _ => 16777215), sn, sx, sy, sm, sp, dg) → wX_openClip_2 post tc ob ps su ep sd bc mA mB oX oY gY wD pC sC (d + 1) (nI j) tk tv cb sk sv vk vv bp br bh bn bs bl px py pm cr sn sx sy sm sp dg := by
  intro d
  induction d with
  | zero =>
    intro j cr hj k
    have : j = 24 := by omega
    subst this
    rw [zf_z] at k
    exact ql_t 24 24 (by omega) k
  | succ d ih =>
    intro j cr hj k
    refine ql_f 24 j (by omega) ⟨vp_in_nI (by omega) (by omega), nm_r (congrArg (fun q => upd cr q 16777215) (zc_i (by omega))) (nm_r (nI_1 j) (ih (j + 1) _ (by omega) ?_))⟩
    rw [zf_s (g := fun _ => 16777215) (by omega)]
    exact k
theorem x_openClip {post : SX → Prop} (k : post (tc, ob, ps, su, ep, sd, bc, mA, mB, oX, oY, gY, wD, pC, sC, tk, tv, cb, sk, sv, vk, vv, bp, br, bh, bn, bs, bl, px, py, pm, zf cr 0 24 (fun _ => 16777215), sn, sx, sy, sm, sp, dg)) : wpX_openClip post (tc, ob, ps, su, ep, sd, bc, mA, mB, oX, oY, gY, wD, pC, sC, tk, tv, cb, sk, sv, vk, vv, bp, br, bh, bn, bs, bl, px, py, pm, cr, sn, sx, sy, sm, sp, dg) := ⟨25, x_openClip_l 24 0 cr rfl k⟩
theorem x_beginRun_l {post : SX → Prop} : ∀ (d j : Nat) (vk vv : Nat → Int32), j + d = 8 →
    post (tc, ob, ps, su, ep, sd, bc, 1, 0, 0, 0, 0, 2, 0, sC, tk, tv, cb, sk, sv, zf vk j 8 (fun _ => 0), zf vv j 8 (fun _ => 0), bp, br, bh, bn, bs, bl, px, py, pm, zf cr 0 24 (fun _ => 16777215), sn, sx, sy, sm, sp, dg) → wX_beginRun_32 post tc ob ps su ep sd bc mA mB oX oY gY wD pC sC (d + 1) (nI j) tk tv cb sk sv vk vv bp br bh bn bs bl px py pm cr sn sx sy sm sp dg := by
  intro d
  induction d with
  | zero =>
    intro j vk vv hj k
    have : j = 8 := by omega
    subst this
    rw [zf_z, zf_z] at k
    exact ql_t 8 8 (by omega) (x_openClip k)
  | succ d ih =>
    intro j vk vv hj k
    refine ql_f 8 j (by omega) ⟨vp_in_nI (by omega) (by omega), nm_r (congrArg (fun q => upd vk q 0) (zc_i (by omega))) ⟨vp_in_nI (by omega) (by omega), nm_r (congrArg (fun q => upd vv q 0) (zc_i (by omega))) (nm_r (nI_1 j) (ih (j + 1) _ _ (by omega) ?_))⟩⟩
    rw [zf_s (g := fun _ => 0) (by omega), zf_s (g := fun _ => 0) (by omega)]
    exact k
theorem x_beginRun {post : SX → Prop} (k : post (tc, ob, 0, 0, -1, 0, 0, 1, 0, 0, 0, 0, 2, 0, 0, tk, tv, cb, sk, sv, zf vk 0 8 (fun _ => 0), zf vv 0 8 (fun _ => 0), bp, br, bh, bn, bs, bl, px, py, pm, zf cr 0 24 (fun _ => 16777215), sn, sx, sy, sm, sp, dg)) : wpX_beginRun post (tc, ob, ps, su, ep, sd, bc, mA, mB, oX, oY, gY, wD, pC, sC, tk, tv, cb, sk, sv, vk, vv, bp, br, bh, bn, bs, bl, px, py, pm, cr, sn, sx, sy, sm, sp, dg) := ⟨9, x_beginRun_l 8 0 vk vv rfl k⟩
theorem y_init_l {post : SY → Prop} : ∀ (d j : Nat) (cp : Nat → Int32), j + d = 576 → post (yt, yo, yh, yi, ya, ye, yp, ys, yc, nw, gn, bg, wd, tk, tv, dg, sk, sv, vk, vv, hw, fr, og, lf, st, la, fm, fc, gr, wi, mn, qx, qy, ss, cl, zf cp j 576 (fun _ => 1), nx, ny) → wY_init_213 post yt yo yh yi ya ye yp ys yc nw gn bg wd (d + 1) (nI j) tk tv dg sk sv vk vv hw fr og lf st la fm fc gr wi mn qx qy ss cl cp nx ny := by
  intro d
  induction d with
  | zero =>
    intro j cp hj k
    have : j = 576 := by omega
    subst this
    rw [zf_z] at k
    exact ql_t 576 576 (by omega) k
  | succ d ih =>
    intro j cp hj k
    refine ql_f 576 j (by omega) ⟨vp_in_nI (by omega) (by omega), nm_r (congrArg (fun q => upd cp q 1) (zc_i (by omega))) (nm_r (nI_1 j) (ih (j + 1) _ (by omega) ?_))⟩
    rw [zf_s (g := fun _ => 1) (by omega)]
    exact k
theorem y_begin3 {post : SY → Prop} : ∀ (d j : Nat) (cp : Nat → Int32), j + d = 576 → post (yt, yo, yh, yi, ya, ye, yp, ys, yc, nw, gn, bg, wd, tk, tv, dg, sk, sv, vk, vv, hw, fr, og, lf, st, la, fm, fc, gr, wi, mn, qx, qy, ss, cl, zf cp j 576 (fun _ => 1), nx, ny) → wY_begin_127 post yt yo yh yi ya ye yp ys yc nw gn bg wd (d + 1) (nI j) tk tv dg sk sv vk vv hw fr og lf st la fm fc gr wi mn qx qy ss cl cp nx ny := by
  intro d
  induction d with
  | zero =>
    intro j cp hj k
    have : j = 576 := by omega
    subst this
    rw [zf_z] at k
    exact ql_t 576 576 (by omega) k
  | succ d ih =>
    intro j cp hj k
    refine ql_f 576 j (by omega) ⟨vp_in_nI (by omega) (by omega), nm_r (congrArg (fun q => upd cp q 1) (zc_i (by omega))) (nm_r (nI_1 j) (ih (j + 1) _ (by omega) ?_))⟩
    rw [zf_s (g := fun _ => 1) (by omega)]
    exact k
theorem y_begin2 {post : SY → Prop} : ∀ (d j : Nat) (fm : Nat → Int32), j + d = 6 →
    post (yt, yo, yh, yi, ya, ye, yp, ys, yc, nw, gn, bg, wd, tk, tv, dg, sk, sv, vk, vv, hw, fr, og, lf, st, la, zf fm j 6 (fun k => if k = 0 ∨ k = 4 then 1 else 0), upd fc 0 1, upd gr 0 0, upd wi 0 2, upd mn 0 0, qx, qy, ss, cl, zf cp 0 576 (fun _ => 1), nx, ny) → wY_begin_65 post yt yo yh yi ya ye yp ys yc nw gn bg wd (d + 1) (nI j) tk tv dg sk sv vk vv hw fr og lf st la fm fc gr wi mn qx qy ss cl cp nx ny := by
  intro d
  induction d with
  | zero =>
    intro j fm hj k
    have : j = 6 := by omega
    subst this
    rw [zf_z] at k
    exact ql_t 6 6 (by omega) (nm_e (nm_e (nm_e (nm_e ⟨577, y_begin3 576 0 cp rfl k⟩))))
  | succ d ih =>
    intro j fm hj k
    rw [← zf_s (by omega)] at k
    have e : (nI j).toNatClampNeg = j := zc_i (by omega)
    refine ql_f 6 j (by omega) (pk_eq j 0 (fun h0 => ?_) (fun h0 => pk_eq j 4 (fun h4 => ?_) (fun h4 => ?_)))
    · rw [if_pos (by omega)] at k
      exact ⟨vp_in_nI (by omega) (by omega), nm_r (congrArg (fun q => upd fm q 1) e) (nm_r (nI_1 j) (ih (j + 1) _ (by omega) k))⟩
    · rw [if_pos (by omega)] at k
      exact ⟨vp_in_nI (by omega) (by omega), nm_r (congrArg (fun q => upd fm q 1) e) (nm_r (nI_1 j) (ih (j + 1) _ (by omega) k))⟩
    · rw [if_neg (by omega)] at k
      exact ⟨vp_in_nI (by omega) (by omega), nm_r (congrArg (fun q => upd fm q 0) e) (nm_r (nI_1 j) (ih (j + 1) _ (by omega) k))⟩
theorem y_begin1 {post : SY → Prop} : ∀ (d j : Nat) (vk vv : Nat → Int32), j + d = 8 →
    post (yt, yo, yh, yi, ya, ye, yp, ys, yc, nw, gn, bg, wd, tk, tv, dg, sk, sv, zf vk j 8 (fun _ => 0), zf vv j 8 (fun _ => 0), hw, fr, og, lf, st, la, zf fm 0 6 (fun k => if k = 0 ∨ k = 4 then 1 else 0), upd fc 0 1, upd gr 0 0, upd wi 0 2, upd mn 0 0, qx, qy, ss, cl, zf cp 0 576 (fun _ => 1), nx, ny) → wY_begin_37 post yt yo yh yi ya ye yp ys yc nw gn bg wd (d + 1) (nI j) tk tv dg sk sv vk vv hw fr og lf st la fm fc gr wi mn qx qy ss cl cp nx ny := by
  intro d
  induction d with
  | zero =>
    intro j vk vv hj k
    have : j = 8 := by omega
    subst this
    rw [zf_z, zf_z] at k
    exact ql_t 8 8 (by omega) ⟨7, y_begin2 6 0 fm rfl k⟩
  | succ d ih =>
    intro j vk vv hj k
    refine ql_f 8 j (by omega) ⟨vp_in_nI (by omega) (by omega), nm_r (congrArg (fun q => upd vk q 0) (zc_i (by omega))) ⟨vp_in_nI (by omega) (by omega), nm_r (congrArg (fun q => upd vv q 0) (zc_i (by omega))) (nm_r (nI_1 j) (ih (j + 1) _ _ (by omega) ?_))⟩⟩
    rw [zf_s (g := fun _ => 0) (by omega), zf_s (g := fun _ => 0) (by omega)]
    exact k
theorem y_begin {post : SY → Prop} (k : post (yt, yo, 0, 0, 0, 0, -1, 0, 0, nw, gn, bg, wd, tk, tv, dg, sk, sv, zf vk 0 8 (fun _ => 0), zf vv 0 8 (fun _ => 0), hw, fr, og, lf, st, la, zf fm 0 6 (fun k => if k = 0 ∨ k = 4 then 1 else 0), upd fc 0 1, upd gr 0 0, upd wi 0 2, upd mn 0 0, qx, qy, ss, cl, zf cp 0 576 (fun _ => 1), nx, ny)) : wpY_begin post (yt, yo, yh, yi, ya, ye, yp, ys, yc, nw, gn, bg, wd, tk, tv, dg, sk, sv, vk, vv, hw, fr, og, lf, st, la, fm, fc, gr, wi, mn, qx, qy, ss, cl, cp, nx, ny) := ⟨9, y_begin1 8 0 vk vv rfl k⟩
end
theorem zcp_full {cr cp : Nat → Int32} : ZCP (zf cr 0 24 (fun _ => 16777215)) (zf cp 0 576 (fun _ => 1)) := by
  intro j hj
  rw [zf_in (by omega) hj]
  have h1 : ∀ i, i < 24 → bt 16777215 i = true := by decide +kernel
  have h2 : ∀ i, i < 32 → 24 ≤ i → bt 16777215 i = false := by decide +kernel
  refine ⟨fun i hi => ?_, fun i hi => ?_⟩
  · rw [zf_in (by omega) (by omega)]
    exact ⟨Or.inr rfl, by rw [h1 i hi]; rfl⟩
  · rcases Nat.lt_or_ge i 32 with h | h
    · exact h2 i h hi
    · exact b_big h
theorem zpt_0 {px py pm qx qy ss cl : Nat → Int32} : ZPT 0 px py pm qx qy ss cl := ⟨by omega, fun h => by omega, fun k h => by omega⟩
theorem i_vc0 : wpX_init (fun u => wpY_init (fun v => i_Rel 0 u v)) := by
  unfold wpX_init
  refine x_beginRun ?_
  refine ⟨577, y_init_l 576 0 _ rfl ?_⟩
  exact ⟨⟨0, 0, 0, ⟨rfl, rfl, rfl, by omega⟩, ⟨rfl, rfl, rfl, rfl⟩, ⟨rfl, rfl, rfl, rfl, rfl, zf_self.symm, zf_self.symm⟩, tk_0 _ _ _, ⟨0, rfl, rfl, zpt_0⟩, zcp_full⟩, rfl⟩
/-! ===== the calls that only read ===== -/
theorem i_vc_place {k : Nat} {u : SX} {v : SY} (I : i_Rel k u v) (hk : k + 3 ≤ 1536) : wpX_place (fun r => wpY_place (fun r' => r' = r ∧ i_Rel (k + 3) u v) v) u := by
  have I2 := I
  obtain ⟨tc, ob, ps, su, ep, sd, bc, mA, mB, oX, oY, gY, wD, pC, sC, tk, tv, cb, sk, sv, vk, vv, bp, br, bh, bn, bs, bl, px, py, pm, cr, sn, sx, sy, sm, sp, dg⟩ := u
  obtain ⟨yt, yo, yh, yi, ya, ye, yp, ys, yc, nw, gn, bg, wd, tk', tv', dg', sk', sv', vk', vv', hw, fr, og, lf, st, la, fm, fc, gr, wi, mn, qx, qy, ss, cl, cp, nx, ny⟩ := v
  exact ⟨I.2, I2⟩
theorem i_vc_steps {k : Nat} {u : SX} {v : SY} (I : i_Rel k u v) (hk : k + 3 ≤ 1536) : wpX_steps (fun r => wpY_steps (fun r' => r' = r ∧ i_Rel (k + 3) u v) v) u := by
  have I2 := I
  obtain ⟨tc, ob, ps, su, ep, sd, bc, mA, mB, oX, oY, gY, wD, pC, sC, tk, tv, cb, sk, sv, vk, vv, bp, br, bh, bn, bs, bl, px, py, pm, cr, sn, sx, sy, sm, sp, dg⟩ := u
  obtain ⟨yt, yo, yh, yi, ya, ye, yp, ys, yc, nw, gn, bg, wd, tk', tv', dg', sk', sv', vk', vv', hw, fr, og, lf, st, la, fm, fc, gr, wi, mn, qx, qy, ss, cl, cp, nx, ny⟩ := v
  obtain ⟨⟨t, o, h, ⟨e1, e2, e3, h24⟩, ⟨e4, e5, e6, e7⟩, _⟩, _⟩ := I
  exact ⟨e7, I2⟩
theorem i_vc_depth {k : Nat} {u : SX} {v : SY} (I : i_Rel k u v) (hk : k + 3 ≤ 1536) : wpX_depth (fun r => wpY_depth (fun r' => r' = r ∧ i_Rel (k + 3) u v) v) u := by
  have I2 := I
  obtain ⟨tc, ob, ps, su, ep, sd, bc, mA, mB, oX, oY, gY, wD, pC, sC, tk, tv, cb, sk, sv, vk, vv, bp, br, bh, bn, bs, bl, px, py, pm, cr, sn, sx, sy, sm, sp, dg⟩ := u
  obtain ⟨yt, yo, yh, yi, ya, ye, yp, ys, yc, nw, gn, bg, wd, tk', tv', dg', sk', sv', vk', vv', hw, fr, og, lf, st, la, fm, fc, gr, wi, mn, qx, qy, ss, cl, cp, nx, ny⟩ := v
  obtain ⟨⟨t, o, h, ⟨e1, e2, e3, h24⟩, ⟨e4, e5, e6, e7⟩, _⟩, _⟩ := I
  exact ⟨e6.trans e3.symm, I2⟩
theorem i_vc_points {k : Nat} {u : SX} {v : SY} (I : i_Rel k u v) (hk : k + 3 ≤ 1536) : wpX_points (fun r => wpY_points (fun r' => r' = r ∧ i_Rel (k + 3) u v) v) u := by
  have I2 := I
  obtain ⟨tc, ob, ps, su, ep, sd, bc, mA, mB, oX, oY, gY, wD, pC, sC, tk, tv, cb, sk, sv, vk, vv, bp, br, bh, bn, bs, bl, px, py, pm, cr, sn, sx, sy, sm, sp, dg⟩ := u
  obtain ⟨yt, yo, yh, yi, ya, ye, yp, ys, yc, nw, gn, bg, wd, tk', tv', dg', sk', sv', vk', vv', hw, fr, og, lf, st, la, fm, fc, gr, wi, mn, qx, qy, ss, cl, cp, nx, ny⟩ := v
  obtain ⟨⟨t, o, h, _, _, _, _, ⟨pc, e8, e9, _⟩, _⟩, _⟩ := I
  exact ⟨e9.trans e8.symm, I2⟩
theorem i_vc_kind {k : Nat} {u : SX} {v : SY} (I : i_Rel k u v) (hk : k + 3 ≤ 1536) (v1 : Int32) : wpX_kind (fun r => wpY_kind (fun r' => r' = r ∧ i_Rel (k + 3) u v) v v1) u v1 := by
  have I2 := I
  obtain ⟨tc, ob, ps, su, ep, sd, bc, mA, mB, oX, oY, gY, wD, pC, sC, tk, tv, cb, sk, sv, vk, vv, bp, br, bh, bn, bs, bl, px, py, pm, cr, sn, sx, sy, sm, sp, dg⟩ := u
  obtain ⟨yt, yo, yh, yi, ya, ye, yp, ys, yc, nw, gn, bg, wd, tk', tv', dg', sk', sv', vk', vv', hw, fr, og, lf, st, la, fm, fc, gr, wi, mn, qx, qy, ss, cl, cp, nx, ny⟩ := v
  obtain ⟨⟨t, o, h, ⟨rfl, rfl, rfl, h24⟩, ⟨rfl, rfl, rfl, rfl⟩, ⟨rfl, rfl, rfl, rfl, rfl, rfl, rfl⟩, hT, _, hC⟩, _⟩ := I
  rcases pk_ix v1 (n := h) (by omega) with h1 | h1 | ⟨j, hj, rfl⟩
  · exact br_t h1 (br_t h1 ⟨rfl, I2⟩)
  · have h0 : ¬ v1 < 0 := Int32.not_lt.mpr (Int32.le_trans (nI_pos' (by omega)) h1)
    exact br_f h0 (br_t h1 (br_f h0 (br_f (Int32.not_lt.mpr h1) ⟨rfl, I2⟩)))
  · have hin : vp_in (nI h - 1 - nI j) 24 := by rw [zs_1 hj]; exact vp_in_nI (by omega) (by omega)
    exact qs_f j 0 (by omega) (ql_f h j hj ⟨hin, qs_f j 0 (by omega) (qs_t j h hj ⟨hin, rfl, I2⟩)⟩)
theorem i_vc_value {k : Nat} {u : SX} {v : SY} (I : i_Rel k u v) (hk : k + 3 ≤ 1536) (v1 : Int32) : wpX_value (fun r => wpY_value (fun r' => r' = r ∧ i_Rel (k + 3) u v) v v1) u v1 := by
  have I2 := I
  obtain ⟨tc, ob, ps, su, ep, sd, bc, mA, mB, oX, oY, gY, wD, pC, sC, tk, tv, cb, sk, sv, vk, vv, bp, br, bh, bn, bs, bl, px, py, pm, cr, sn, sx, sy, sm, sp, dg⟩ := u
  obtain ⟨yt, yo, yh, yi, ya, ye, yp, ys, yc, nw, gn, bg, wd, tk', tv', dg', sk', sv', vk', vv', hw, fr, og, lf, st, la, fm, fc, gr, wi, mn, qx, qy, ss, cl, cp, nx, ny⟩ := v
  obtain ⟨⟨t, o, h, ⟨rfl, rfl, rfl, h24⟩, ⟨rfl, rfl, rfl, rfl⟩, ⟨rfl, rfl, rfl, rfl, rfl, rfl, rfl⟩, hT, _, hC⟩, _⟩ := I
  rcases pk_ix v1 (n := h) (by omega) with h1 | h1 | ⟨j, hj, rfl⟩
  · exact br_t h1 (br_t h1 ⟨rfl, I2⟩)
  · have h0 : ¬ v1 < 0 := Int32.not_lt.mpr (Int32.le_trans (nI_pos' (by omega)) h1)
    exact br_f h0 (br_t h1 (br_f h0 (br_f (Int32.not_lt.mpr h1) ⟨rfl, I2⟩)))
  · have hin : vp_in (nI h - 1 - nI j) 24 := by rw [zs_1 hj]; exact vp_in_nI (by omega) (by omega)
    exact qs_f j 0 (by omega) (ql_f h j hj ⟨hin, qs_f j 0 (by omega) (qs_t j h hj ⟨hin, rfl, I2⟩)⟩)
section
variable {tc ob ps su ep sd bc mA mB oX oY gY wD pC sC yt yo yh yi ya ye yp ys yc nw gn bg wd : Int32} {tk tv cb sk sv vk vv bp br bh bn bs bl px py pm cr sn sx sy sm sp dg hw fr og lf st la fm fc gr wi mn qx qy ss cl cp nx ny : Nat → Int32}
def zdt (dg : Nat → Int32) (i j : Int32) : Int32 := if i < 0 then -1 else if 24 ≤ i then -1 else if j < 0 then -1 else if 24 ≤ j then -1 else dg (24 * j + i).toNatClampNeg
theorem zd_in {i j : Nat} (hi : i < 24) (hj : j < 24) : 24 * nI j + nI i = nI (24 * j + i) := by
  show nI 24 * nI j + nI i = _
  rw [pk_mul, nI_add]
theorem x_grayAt {post : Int32 → Prop} {i j : Int32} (k : post (zdt dg i j)) : wpX_grayAt post (tc, ob, ps, su, ep, sd, bc, mA, mB, oX, oY, gY, wD, pC, sC, tk, tv, cb, sk, sv, vk, vv, bp, br, bh, bn, bs, bl, px, py, pm, cr, sn, sx, sy, sm, sp, dg) i j := by
  unfold zdt at k
  refine br_c (fun h1 => ?_) (fun h1 => br_c (fun h2 => ?_) (fun h2 => br_c (fun h3 => ?_) (fun h3 => br_c (fun h4 => ?_) (fun h4 => br_f (by decide) ?_))))
  · rw [if_pos h1] at k; exact br_t rfl k
  · rw [if_neg h1, if_pos h2] at k; exact br_t rfl k
  · rw [if_neg h1, if_neg h2, if_pos h3] at k; exact br_t rfl k
  · rw [if_neg h1, if_neg h2, if_neg h3, if_pos h4] at k; exact br_t rfl k
  · rw [if_neg h1, if_neg h2, if_neg h3, if_neg h4] at k
    obtain ⟨a, ha, rfl⟩ : ∃ a : Nat, a < 24 ∧ i = nI a := by
      rcases pk_ix i (n := 24) (by omega) with h | h | h
      · exact absurd h h1
      · exact absurd h h2
      · exact h
    obtain ⟨b, hb, rfl⟩ : ∃ b : Nat, b < 24 ∧ j = nI b := by
      rcases pk_ix j (n := 24) (by omega) with h | h | h
      · exact absurd h h3
      · exact absurd h h4
      · exact h
    have e : nI b * 24 + nI a = 24 * nI b + nI a := by rw [Int32.mul_comm]
    rw [e]
    refine ⟨?_, k⟩
    rw [zd_in ha hb]
    exact vp_in_nI (by omega) (by omega)
theorem y_dot {post : Int32 → Prop} {i j : Int32} (k : post (zdt dg i j)) : wpY_dot post (yt, yo, yh, yi, ya, ye, yp, ys, yc, nw, gn, bg, wd, tk, tv, dg, sk, sv, vk, vv, hw, fr, og, lf, st, la, fm, fc, gr, wi, mn, qx, qy, ss, cl, cp, nx, ny) i j := by
  unfold zdt at k
  rcases pk_ix i (n := 24) (by omega) with h | h | ⟨a, ha, rfl⟩
  · rw [if_pos h] at k; exact br_t h k
  · have h0 : ¬ i < 0 := Int32.not_lt.mpr (Int32.le_trans (nI_pos' (by omega)) h)
    have h2 : (23 : Int32) < i := Int32.lt_of_lt_of_le (by decide : (23 : Int32) < nI 24) h
    rw [if_neg h0, if_pos (show (24 : Int32) ≤ i from h)] at k
    exact br_f h0 (br_t h2 k)
  · rw [if_neg (nI_pos (by omega)), if_neg (show ¬ (24 : Int32) ≤ nI a from nI_ge (b := 24) ha (by decide))] at k
    refine br_f (nI_pos (by omega)) (qs_f 23 a (by omega) ?_)
    rcases pk_ix j (n := 24) (by omega) with h | h | ⟨b, hb, rfl⟩
    · rw [if_pos h] at k; exact br_t h k
    · have h0 : ¬ j < 0 := Int32.not_lt.mpr (Int32.le_trans (nI_pos' (by omega)) h)
      have h2 : ¬ j ≤ (23 : Int32) := Int32.not_le.mpr (Int32.lt_of_lt_of_le (by decide : (23 : Int32) < nI 24) h)
      rw [if_neg h0, if_pos (show (24 : Int32) ≤ j from h)] at k
      exact br_f h0 (br_f h2 k)
    · rw [if_neg (nI_pos (by omega)), if_neg (show ¬ (24 : Int32) ≤ nI b from nI_ge (b := 24) hb (by decide))] at k
      refine br_f (nI_pos (by omega)) (ql_t b 23 (by omega) ⟨?_, k⟩)
      rw [zd_in ha hb]
      exact vp_in_nI (by omega) (by omega)
def zcn (dg : Nat → Int32) (g : Int32) : Nat → Nat → Int32 → Int32
  | 0, _, x => x
  | d + 1, j, x => zcn dg g d (j + 1) (if dg j = g then x + 1 else x)
theorem x_count_l {post : Int32 → Prop} {g : Int32} : ∀ (d j : Nat) (x : Int32), j + d = 576 → post (zcn dg g d j x) → wX_count_4 post g tc ob ps su ep sd bc mA mB oX oY gY wD pC sC tk tv cb sk sv vk vv bp br bh bn bs bl px py pm cr sn sx sy sm sp dg (d + 1) x (nI j) := by
  intro d
  induction d with
  | zero =>
    intro j x hj k
    exact ql_t 576 j (by omega) k
  | succ d ih =>
    intro j x hj k
    refine ql_f 576 j (by omega) ⟨vp_in_nI (by omega) (by omega), ?_⟩
    rw [zc_i (by omega)]
    unfold zcn at k
    refine br_c (fun e => ?_) (fun e => ?_)
    · rw [if_pos e] at k; exact nm_e (nm_r (nI_1 j) (ih (j + 1) _ (by omega) k))
    · rw [if_neg e] at k; exact nm_r (nI_1 j) (ih (j + 1) _ (by omega) k)
theorem y_count_l {post : Int32 → Prop} {g : Int32} : ∀ (d j : Nat) (x : Int32), j + d = 576 → post (zcn dg g d j x) → wY_count_4 post g yt yo yh yi ya ye yp ys yc nw gn bg wd tk tv dg sk sv vk vv hw fr og lf st la fm fc gr wi mn qx qy ss cl cp nx ny (d + 1) x (nI j) := by
  intro d
  induction d with
  | zero =>
    intro j x hj k
    exact ql_t 576 j (by omega) k
  | succ d ih =>
    intro j x hj k
    refine ql_f 576 j (by omega) ⟨vp_in_nI (by omega) (by omega), ?_⟩
    rw [zc_i (by omega)]
    unfold zcn at k
    refine br_c (fun e => ?_) (fun e => ?_)
    · rw [if_pos e] at k; exact nm_e (nm_r (nI_1 j) (ih (j + 1) _ (by omega) k))
    · rw [if_neg e] at k; exact nm_r (nI_1 j) (ih (j + 1) _ (by omega) k)
end
theorem i_vc_dot {k : Nat} {u : SX} {v : SY} (I : i_Rel k u v) (hk : k + 3 ≤ 1536) (v1 : Int32) (v2 : Int32) : wpX_dot (fun r => wpY_dot (fun r' => r' = r ∧ i_Rel (k + 3) u v) v v1 v2) u v1 v2 := by
  have I2 := I
  obtain ⟨tc, ob, ps, su, ep, sd, bc, mA, mB, oX, oY, gY, wD, pC, sC, tk, tv, cb, sk, sv, vk, vv, bp, br, bh, bn, bs, bl, px, py, pm, cr, sn, sx, sy, sm, sp, dg⟩ := u
  obtain ⟨yt, yo, yh, yi, ya, ye, yp, ys, yc, nw, gn, bg, wd, tk', tv', dg', sk', sv', vk', vv', hw, fr, og, lf, st, la, fm, fc, gr, wi, mn, qx, qy, ss, cl, cp, nx, ny⟩ := v
  obtain ⟨⟨t, o, h, ⟨rfl, rfl, rfl, h24⟩, ⟨rfl, rfl, rfl, rfl⟩, ⟨rfl, rfl, rfl, rfl, rfl, rfl, rfl⟩, hT, _, hC⟩, _⟩ := I
  unfold wpX_dot
  exact x_grayAt (y_dot ⟨rfl, I2⟩)
theorem i_vc_count {k : Nat} {u : SX} {v : SY} (I : i_Rel k u v) (hk : k + 3 ≤ 1536) (v1 : Int32) : wpX_count (fun r => wpY_count (fun r' => r' = r ∧ i_Rel (k + 3) u v) v v1) u v1 := by
  have I2 := I
  obtain ⟨tc, ob, ps, su, ep, sd, bc, mA, mB, oX, oY, gY, wD, pC, sC, tk, tv, cb, sk, sv, vk, vv, bp, br, bh, bn, bs, bl, px, py, pm, cr, sn, sx, sy, sm, sp, dg⟩ := u
  obtain ⟨yt, yo, yh, yi, ya, ye, yp, ys, yc, nw, gn, bg, wd, tk', tv', dg', sk', sv', vk', vv', hw, fr, og, lf, st, la, fm, fc, gr, wi, mn, qx, qy, ss, cl, cp, nx, ny⟩ := v
  obtain ⟨⟨t, o, h, ⟨rfl, rfl, rfl, h24⟩, ⟨rfl, rfl, rfl, rfl⟩, ⟨rfl, rfl, rfl, rfl, rfl, rfl, rfl⟩, hT, _, hC⟩, _⟩ := I
  exact ⟨577, x_count_l 576 0 0 rfl ⟨577, y_count_l 576 0 0 rfl ⟨rfl, I2⟩⟩⟩
