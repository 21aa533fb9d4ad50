section
variable {tc ob ps su ep sd bc mA mB oX oY gY wD pC sC yt yo yh yi ya ye yp ys yc nw gn bg wd : Int32} {tk tv cb sk sv vk vv bp br bh bn bs bl px py pm cr sn sx sy sm sp dg hw fr og lf st la fm fc gr wi mn qx qy ss cl cp nx ny : Nat → Int32}
variable {fm' fc' gr' wi' mn' qx' qy' ss' cl' cp' sn' sx' sy' sm' sp' : Nat → Int32}
theorem zx_fun {f f' : Nat → Int32} {o b : Nat} (h : ∀ i, b ≤ i → f' i = f i) (hb : b ≤ o) : (fun k => f' (o + k)) = (fun k => f (o + k)) := funext (fun k => h (o + k) (by omega))
/-- the saved states don't feel what happens to the current one -/
theorem zsv_up {n : Nat} (h : ZSV n sn sx sy sm sp fm fc gr wi mn qx qy ss cl cp) (e1 : ∀ i, 6 ≤ i → fm' i = fm i) (e2 : ∀ i, 1 ≤ i → fc' i = fc i) (e3 : ∀ i, 1 ≤ i → gr' i = gr i) (e4 : ∀ i, 1 ≤ i → wi' i = wi i) (e5 : ∀ i, 1 ≤ i → mn' i = mn i)
    (e6 : ∀ i, 48 ≤ i → qx' i = qx i) (e7 : ∀ i, 48 ≤ i → qy' i = qy i) (e8 : ∀ i, 48 ≤ i → ss' i = ss i) (e9 : ∀ i, 48 ≤ i → cl' i = cl i) (e10 : ∀ i, 576 ≤ i → cp' i = cp i) : ZSV n sn sx sy sm sp fm' fc' gr' wi' mn' qx' qy' ss' cl' cp' := by
  refine ⟨h.1, fun c hc => ?_⟩
  have := h.2 c hc
  rw [zx_fun e1 (by omega), e2 _ (by omega), e3 _ (by omega), e4 _ (by omega), e5 _ (by omega), zx_fun e6 (by omega), zx_fun e7 (by omega), zx_fun e8 (by omega), zx_fun e9 (by omega), zx_fun e10 (by omega)]
  exact this
theorem zr_i {f : Nat → Int32} {b : Nat} : ∀ i, b ≤ i → f i = f i := fun _ _ => rfl
theorem zr_u {f : Nat → Int32} {x : Int32} : ∀ i, 1 ≤ i → upd f 0 x i = f i := fun i hi => pk_un (by omega)
theorem zgs_gray {a b ox oy g w m F G W M g' : Int32} {f : Nat → Int32} (h : ZGS a b ox oy g w m px py pm cr f F G W M qx qy ss cl cp) : ZGS a b ox oy g' w m px py pm cr f F g' W M qx qy ss cl cp := ⟨h.1, rfl, h.2.2⟩
theorem zgs_width {a b ox oy g w m F G W M w' : Int32} {f : Nat → Int32} (h : ZGS a b ox oy g w m px py pm cr f F G W M qx qy ss cl cp) : ZGS a b ox oy g w' m px py pm cr f F G w' M qx qy ss cl cp := ⟨h.1, h.2.1, rfl, h.2.2.2⟩
theorem zgs_clip {a b ox oy g w m F G W M : Int32} {f cr' : Nat → Int32} (h : ZGS a b ox oy g w m px py pm cr f F G W M qx qy ss cl cp) (hc : ZCP cr' cp') : ZGS a b ox oy g w m px py pm cr' f F G W M qx qy ss cl cp' := ⟨h.1, h.2.1, h.2.2.1, h.2.2.2.1, h.2.2.2.2.1, hc⟩
theorem zgs_path {a b ox oy g w m F G W M : Int32} {f px' py' pm' : Nat → Int32} {q : Nat} (h : ZGS a b ox oy g w m px py pm cr f F G W M qx qy ss cl cp) (hp : ZPT q px' py' pm' qx' qy' ss' cl') : ZGS a b ox oy g w (nI q) px' py' pm' cr f F G W (nI q) qx' qy' ss' cl' cp := ⟨h.1, h.2.1, h.2.2.1, rfl, ⟨q, rfl, hp⟩, h.2.2.2.2.2⟩
theorem zgs_map {a b ox oy g w m F G W M a' b' ox' oy' F' : Int32} {f f' : Nat → Int32} (h : ZGS a b ox oy g w m px py pm cr f F G W M qx qy ss cl cp) (hg : ZGR a' b' ox' oy' f' F') : ZGS a' b' ox' oy' g w m px py pm cr f' F' G W M qx qy ss cl cp := ⟨hg, h.2⟩
/-! the factor -/
theorem zneg_le {n : Nat} (h : n ≤ 64) : (-nI n).toInt = -(n : Int) := (by decide +kernel : ∀ n, n < 65 → (-nI n).toInt = -(n : Int)) n (by omega)
theorem x_factor {post : Int32 → Prop} {F : Int32} {f : Nat → Int32} (hg : ZGR mA mB oX oY f F) (k : post F) : wpX_factor post (tc, ob, ps, su, ep, sd, bc, mA, mB, oX, oY, gY, wD, pC, sC, tk, tv, cb, sk, sv, vk, vv, bp, br, bh, bn, bs, bl, px, py, pm, cr, sn, sx, sy, sm, sp, dg) := by
  obtain ⟨_, _, _, _, _, _, _, _, n, h1, h2, rfl, hc⟩ := hg
  have hpos : (0 : Int32) ≤ nI n := nI_pos' (by omega)
  have hneg : ¬ (0 : Int32) ≤ -nI n := by rw [zt_le, zneg_le h2, z32_0]; omega
  have e1 : -(-nI n) = nI n := Int32.neg_neg
  rcases hc with ⟨rfl, rfl⟩ | ⟨rfl, rfl⟩ | ⟨rfl, rfl⟩ | ⟨rfl, rfl⟩
  · exact nm_r (Int32.add_zero _) (br_t hpos k)
  · exact nm_r (Int32.zero_add _) (br_t hpos k)
  · refine nm_r (Int32.add_zero _) (br_f hneg ?_)
    rw [e1]; exact k
  · refine nm_r (Int32.zero_add _) (br_f hneg ?_)
    rw [e1]; exact k
/-! device coordinates -/
def ZDX (a b o : Int32) (x y : Int64) : Int64 := a.toInt64 * x - b.toInt64 * y + o.toInt64
def zof (x y : Int64) : Int32 := if x < -200 then 1 else if 200 < x then 1 else if y < -200 then 1 else if y ≤ 200 then 0 else 1
theorem zneg64 {a b ox oy F : Int32} {f : Nat → Int32} (hg : ZGR a b ox oy f F) : (-b).toInt64 = -b.toInt64 := by
  obtain ⟨_, _, _, _, _, _, _, _, n, h1, h2, rfl, hc⟩ := hg
  have k1 : ∀ n, n < 65 → (-nI n).toInt64 = -(nI n).toInt64 := by decide +kernel
  have k2 : ∀ n, n < 65 → (-(-nI n)).toInt64 = -(-nI n).toInt64 := by decide +kernel
  rcases hc with ⟨_, rfl⟩ | ⟨_, rfl⟩ | ⟨_, rfl⟩ | ⟨_, rfl⟩
  · decide
  · exact k1 n (by omega)
  · decide
  · exact k2 n (by omega)
theorem x_deviceX {post : Int64 → Prop} {x y : Int64} (k : post (ZDX mA mB oX x y)) : wpX_deviceX post (tc, ob, ps, su, ep, sd, bc, mA, mB, oX, oY, gY, wD, pC, sC, tk, tv, cb, sk, sv, vk, vv, bp, br, bh, bn, bs, bl, px, py, pm, cr, sn, sx, sy, sm, sp, dg) x y := k
theorem x_deviceY {post : Int64 → Prop} {x y : Int64} (k : post (ZDX mA mB oY y (-x))) : wpX_deviceY post (tc, ob, ps, su, ep, sd, bc, mA, mB, oX, oY, gY, wD, pC, sC, tk, tv, cb, sk, sv, vk, vv, bp, br, bh, bn, bs, bl, px, py, pm, cr, sn, sx, sy, sm, sp, dg) x y := by
  have e : ZDX mA mB oY y (-x) = ((mB.toInt64 * x) + (mA.toInt64 * y)) + oY.toInt64 := by
    unfold ZDX
    grind
  rw [e] at k
  exact k
theorem y_deviceX {post : Int64 → Prop} {x y : Int64} {F : Int32} (hg : ZGR mA mB oX oY fm F) (k : post (ZDX mA mB oX x y)) : wpY_deviceX post (yt, yo, yh, yi, ya, ye, yp, ys, yc, nw, gn, bg, wd, tk, tv, dg, sk, sv, vk, vv, hw, fr, og, lf, st, la, fm, fc, gr, wi, mn, qx, qy, ss, cl, cp, nx, ny) x y := by
  show post (((((fm 0).toInt64) * x) + (((fm 1).toInt64) * y)) + ((fm 2).toInt64))
  have e : ZDX mA mB oX x y = ((((fm 0).toInt64) * x) + (((fm 1).toInt64) * y)) + ((fm 2).toInt64) := by
    rw [hg.1, hg.2.1, hg.2.2.1, zneg64 hg]
    unfold ZDX
    grind
  rw [← e]
  exact k
theorem y_deviceY {post : Int64 → Prop} {x y : Int64} {F : Int32} (hg : ZGR mA mB oX oY fm F) (k : post (ZDX mA mB oY y (-x))) : wpY_deviceY post (yt, yo, yh, yi, ya, ye, yp, ys, yc, nw, gn, bg, wd, tk, tv, dg, sk, sv, vk, vv, hw, fr, og, lf, st, la, fm, fc, gr, wi, mn, qx, qy, ss, cl, cp, nx, ny) x y := by
  show post (((((fm 3).toInt64) * x) + (((fm 4).toInt64) * y)) + ((fm 5).toInt64))
  have e : ZDX mA mB oY y (-x) = ((((fm 3).toInt64) * x) + (((fm 4).toInt64) * y)) + ((fm 5).toInt64) := by
    rw [hg.2.2.2.1, hg.2.2.2.2.1, hg.2.2.2.2.2.1]
    unfold ZDX
    grind
  rw [← e]
  exact k
theorem x_opDX {post : Int64 → Prop} {i : Int32} {h j : Nat} (hs : sd = nI h) (hi : i = nI j) (hh : h ≤ 24) (hj : j + 1 < h) (k : post (ZDX mA mB oX (sv (h - 1 - (j + 1))).toInt64 (sv (h - 1 - j)).toInt64)) : wpX_operandDeviceX post (tc, ob, ps, su, ep, sd, bc, mA, mB, oX, oY, gY, wD, pC, sC, tk, tv, cb, sk, sv, vk, vv, bp, br, bh, bn, bs, bl, px, py, pm, cr, sn, sx, sy, sm, sp, dg) i := by
  unfold wpX_operandDeviceX
  exact x_operand (j := j + 1) hs (by rw [hi, nI_1]) hh (by omega) (x_operand (j := j) hs hi hh (by omega) (x_deviceX k))
theorem x_opDY {post : Int64 → Prop} {i : Int32} {h j : Nat} (hs : sd = nI h) (hi : i = nI j) (hh : h ≤ 24) (hj : j + 1 < h) (k : post (ZDX mA mB oY (sv (h - 1 - j)).toInt64 (-(sv (h - 1 - (j + 1))).toInt64))) : wpX_operandDeviceY post (tc, ob, ps, su, ep, sd, bc, mA, mB, oX, oY, gY, wD, pC, sC, tk, tv, cb, sk, sv, vk, vv, bp, br, bh, bn, bs, bl, px, py, pm, cr, sn, sx, sy, sm, sp, dg) i := by
  unfold wpX_operandDeviceY
  exact x_operand (j := j + 1) hs (by rw [hi, nI_1]) hh (by omega) (x_operand (j := j) hs hi hh (by omega) (x_deviceY k))
theorem x_opDXA {post : Int64 → Prop} {i : Int32} {h j : Nat} (hs : sd = nI h) (hi : i = nI j) (hh : h ≤ 24) (hj : j < 23) (k : ∀ x, post x) : wpX_operandDeviceX post (tc, ob, ps, su, ep, sd, bc, mA, mB, oX, oY, gY, wD, pC, sC, tk, tv, cb, sk, sv, vk, vv, bp, br, bh, bn, bs, bl, px, py, pm, cr, sn, sx, sy, sm, sp, dg) i := by
  unfold wpX_operandDeviceX
  exact x_operandA (j := j + 1) hs (by rw [hi, nI_1]) hh (by omega) (fun _ => x_operandA (j := j) hs hi hh (by omega) (fun _ => x_deviceX (k _)))
theorem x_opDYA {post : Int64 → Prop} {i : Int32} {h j : Nat} (hs : sd = nI h) (hi : i = nI j) (hh : h ≤ 24) (hj : j < 23) (k : ∀ x, post x) : wpX_operandDeviceY post (tc, ob, ps, su, ep, sd, bc, mA, mB, oX, oY, gY, wD, pC, sC, tk, tv, cb, sk, sv, vk, vv, bp, br, bh, bn, bs, bl, px, py, pm, cr, sn, sx, sy, sm, sp, dg) i := by
  unfold wpX_operandDeviceY
  exact x_operandA (j := j + 1) hs (by rw [hi, nI_1]) hh (by omega) (fun _ => x_operandA (j := j) hs hi hh (by omega) (fun _ => x_deviceY (k _)))
theorem x_off {post : Int32 → Prop} {x y : Int64} (k : post (zof x y)) : wpX_isOffLimits post x y := by
  unfold zof at k
  have t44 : ∀ a b : Int32, (a ≠ 0 → post 1) → (a = 0 → b ≠ 0 → post 1) → (a = 0 → b = 0 → post 0) → wX_isOffLimits_44 post a b := fun a b k1 k2 k3 => br_c (fun q => br_c (fun q2 => k3 q q2) (fun q2 => k2 q q2)) (fun q => k1 q)
  have t21 : ∀ a : Int32, (a ≠ 0 → post 1) → (a = 0 → post (if y < -200 then 1 else if y ≤ 200 then 0 else 1)) → wX_isOffLimits_21 post y a := by
    intro a k1 k2
    refine br_c (fun q => t44 a 1 k1 (fun q2 _ => ?_) (fun q2 z => absurd z (by decide))) (fun q => br_c (fun q3 => t44 a 0 k1 (fun _ z => absurd rfl z) (fun q2 _ => ?_)) (fun q3 => t44 a 1 k1 (fun q2 _ => ?_) (fun q2 z => absurd z (by decide))))
    · have := k2 q2; rw [if_pos q] at this; exact this
    · have := k2 q2; rw [if_neg q, if_pos q3] at this; exact this
    · have := k2 q2; rw [if_neg q, if_neg q3] at this; exact this
  refine br_c (fun q => t21 1 (fun _ => ?_) (fun z => absurd z (by decide))) (fun q => br_c (fun q2 => t21 0 (fun z => absurd rfl z) (fun _ => ?_)) (fun q2 => t21 1 (fun _ => ?_) (fun z => absurd z (by decide))))
  · rw [if_pos q] at k; exact k
  · rw [if_neg q, if_neg (Int64.not_lt.mpr q2)] at k; exact k
  · rw [if_neg q, if_pos (Int64.not_le.mp q2)] at k; exact k
theorem y_out {post : Int32 → Prop} {x y : Int64} (k : post (zof x y)) : wpY_out post x y := by
  unfold wpY_out
  simp only [zh post]
  exact k
theorem zof_0 {x y : Int64} (h : zof x y = 0) : Zsm x.toInt32 ∧ Zsm y.toInt32 := by
  unfold zof at h
  have m2 : (-200 : Int64).toInt = -200 := by decide
  have p2 : (200 : Int64).toInt = 200 := by decide
  by_cases q1 : x < -200
  · rw [if_pos q1] at h; exact absurd h (by decide)
  · rw [if_neg q1] at h
    by_cases q2 : 200 < x
    · rw [if_pos q2] at h; exact absurd h (by decide)
    · rw [if_neg q2] at h
      by_cases q3 : y < -200
      · rw [if_pos q3] at h; exact absurd h (by decide)
      · rw [if_neg q3] at h
        by_cases q4 : y ≤ 200
        · rw [z64_lt, m2] at q1 q3
          rw [z64_lt, p2] at q2
          rw [z64_le, p2] at q4
          have ex : x.toInt32.toInt = x.toInt := by
            rw [Int64.toInt_toInt32]
            exact Int.bmod_eq_of_le (by omega) (by omega)
          have ey : y.toInt32.toInt = y.toInt := by
            rw [Int64.toInt_toInt32]
            exact Int.bmod_eq_of_le (by omega) (by omega)
          refine ⟨⟨?_, ?_⟩, ?_, ?_⟩
          · rw [ex]; omega
          · rw [ex]; omega
          · rw [ey]; omega
          · rw [ey]; omega
        · rw [if_neg q4] at h; exact absurd h (by decide)
theorem zof_01 (x y : Int64) : zof x y = 0 ∨ zof x y = 1 := by
  unfold zof
  split
  · simp
  · split
    · simp
    · split
      · simp
      · split <;> simp
/-! the reference's plan -/
theorem zo_nb {x y : Int32} (hx : x = 0 ∨ x = 1) (hy : y = 0 ∨ y = 1) : narrow .boolean (.int (x ||| y)) = .int (x ||| y) ∧ fits .boolean (.int (x ||| y)) = true := by
  rcases hx with rfl | rfl <;> rcases hy with rfl | rfl <;> exact ⟨rfl, rfl⟩
theorem y_plan {post : SY → Prop} {x y : Int64} {q : Nat} (hq : nw = nI q) (h9 : q < 9) (hwd : wd = 0 ∨ wd = 1) (k : post (yt, yo, yh, yi, ya, ye, yp, ys, yc, nI (q + 1), gn, bg, wd ||| zof x y, tk, tv, dg, sk, sv, vk, vv, hw, fr, og, lf, st, la, fm, fc, gr, wi, mn, qx, qy, ss, cl, cp, upd nx q x.toInt32, upd ny q y.toInt32)) : wpY_plan post (yt, yo, yh, yi, ya, ye, yp, ys, yc, nw, gn, bg, wd, tk, tv, dg, sk, sv, vk, vv, hw, fr, og, lf, st, la, fm, fc, gr, wi, mn, qx, qy, ss, cl, cp, nx, ny) x y := by
  subst hq
  unfold wpY_plan
  have e : (nI q).toNatClampNeg = q := zc_i (by omega)
  have hi : vp_in (nI q) 9 := vp_in_nI h9 (by omega)
  exact y_out (nm_e ⟨(zo_nb hwd (zof_01 x y)).1, (zo_nb hwd (zof_01 x y)).2, hi, nm_r (congrArg (fun z => upd nx z x.toInt32) e) ⟨hi, nm_r (congrArg (fun z => upd ny z y.toInt32) e) (nm_r (nI_1 q) k)⟩⟩)
theorem y_planUser {post : SY → Prop} {x y : Int64} {q : Nat} {F : Int32} (hg : ZGR mA mB oX oY fm F) (hq : nw = nI q) (h9 : q < 9) (hwd : wd = 0 ∨ wd = 1) (k : post (yt, yo, yh, yi, ya, ye, yp, ys, yc, nI (q + 1), gn, bg, wd ||| zof (ZDX mA mB oX x y) (ZDX mA mB oY y (-x)), tk, tv, dg, sk, sv, vk, vv, hw, fr, og, lf, st, la, fm, fc, gr, wi, mn, qx, qy, ss, cl, cp, upd nx q (ZDX mA mB oX x y).toInt32, upd ny q (ZDX mA mB oY y (-x)).toInt32)) : wpY_planUser post (yt, yo, yh, yi, ya, ye, yp, ys, yc, nw, gn, bg, wd, tk, tv, dg, sk, sv, vk, vv, hw, fr, og, lf, st, la, fm, fc, gr, wi, mn, qx, qy, ss, cl, cp, nx, ny) x y := by
  unfold wpY_planUser
  exact y_deviceX hg (y_deviceY hg (y_plan hq h9 hwd k))
/-! behind changeState and changePath -/
theorem x_153 {post : Int32 → SX → Prop} {op h n : Nat} (hop : op < 45) (hn : ztk op = n) (hz : n ≤ h) (hs : sd = nI h) (k : post 0 (tc, ob, ps, su, ep, nI (h - n), bc, mA, mB, oX, oY, gY, wD, pC, sC, tk, tv, cb, sk, sv, vk, vv, bp, br, bh, bn, bs, bl, px, py, pm, cr, sn, sx, sy, sm, sp, dg)) : wX_execute_153 post (nI op) 0 tc ob ps su ep sd bc mA mB oX oY gY wD pC sC tk tv cb sk sv vk vv bp br bh bn bs bl px py pm cr sn sx sy sm sp dg := by
  subst hn hs
  exact br_t rfl (x_takenBy hop (nm_r (pk_sub hz) k))
theorem x_153e {post : Int32 → SX → Prop} {op e : Int32} (he : e ≠ 0) (k : post e (tc, ob, ps, su, ep, sd, bc, mA, mB, oX, oY, gY, wD, pC, sC, tk, tv, cb, sk, sv, vk, vv, bp, br, bh, bn, bs, bl, px, py, pm, cr, sn, sx, sy, sm, sp, dg)) : wX_execute_153 post op e tc ob ps su ep sd bc mA mB oX oY gY wD pC sC tk tv cb sk sv vk vv bp br bh bn bs bl px py pm cr sn sx sy sm sp dg := br_f he k
theorem y_s259 {post : SY → Prop} {op h n : Nat} (hop : op < 45) (hn : ztk op = n) (hz : n ≤ h) (hs : yh = nI h) (k : post (yt, yo, nI (h - n), yi, ya + 1, ye, yp, ys, yc, nw, gn, bg, wd, tk, tv, dg, sk, sv, vk, vv, hw, fr, og, lf, st, la, fm, fc, gr, wi, mn, qx, qy, ss, cl, cp, nx, ny)) : wY_state_259 post (nI op) yt yo yh yi ya ye yp ys yc nw gn bg wd tk tv dg sk sv vk vv hw fr og lf st la fm fc gr wi mn qx qy ss cl cp nx ny := by
  subst hn hs
  unfold wY_state_259
  exact y_takes hop (nm_r (pk_sub hz) (nm_e k))
theorem y_st0 {post : SY → Prop} {op : Nat} (hop : op < 45) (hn : ztk op = 0) (k : wY_state_16 post (nI op) 0 yt yo yh yi ya ye yp ys yc nw gn bg wd tk tv dg sk sv vk vv hw fr og lf st la fm fc gr wi mn qx qy ss cl cp nx ny) : wpY_state post (yt, yo, yh, yi, ya, ye, yp, ys, yc, nw, gn, bg, wd, tk, tv, dg, sk, sv, vk, vv, hw, fr, og, lf, st, la, fm, fc, gr, wi, mn, qx, qy, ss, cl, cp, nx, ny) (nI op) := by
  unfold wpY_state
  refine y_takes hop ?_
  rw [hn]
  exact br_t (by decide) k
theorem y_st1 {post : SY → Prop} {op h n : Nat} (hop : op < 45) (hn : ztk op = n) (h1 : 1 ≤ n) (hz : n ≤ h) (hh : h ≤ 24) (hs : yh = nI h) (k : wY_state_16 post (nI op) (sv (h - 1 - 0)) yt yo yh yi ya ye yp ys yc nw gn bg wd tk tv dg sk sv vk vv hw fr og lf st la fm fc gr wi mn qx qy ss cl cp nx ny) : wpY_state post (yt, yo, yh, yi, ya, ye, yp, ys, yc, nw, gn, bg, wd, tk, tv, dg, sk, sv, vk, vv, hw, fr, og, lf, st, la, fm, fc, gr, wi, mn, qx, qy, ss, cl, cp, nx, ny) (nI op) := by
  unfold wpY_state
  refine y_takes hop ?_
  rw [hn]
  exact ql_f n 0 h1 (y_top (j := 0) hs rfl hh (by omega) k)
theorem y_48 {pc : Nat} (hm : mn 0 = nI pc) (hp : pc ≤ 48) : ¬ (48 : Int32) < mn 0 - 0 + 0 := by
  rw [hm]
  show ¬ nI 48 < nI pc - nI 0 + nI 0
  rw [pk_sub (by omega), nI_add]
  exact nI_nlt (by omega) (by omega)
end
