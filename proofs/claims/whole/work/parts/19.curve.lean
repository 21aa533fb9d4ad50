section
variable {tc ob ps su ep sd bc mA mB oX oY gY wD pC sC yt yo yh yi ya ye yp ys yc nw gn bg wd : Int32} {tk tv cb sk sv vk vv bp br bh bn bs bl px py pm cr sn sx sy sm sp dg hw fr og lf st la fm fc gr wi mn qx qy ss cl cp nx ny : Nat → Int32}
def zcv (k : Int32) (p a b c : Int64) : Int64 := (((((((8 - k) * (8 - k)) * (8 - k)).toInt64 * p) + (((((3 * k) * (8 - k)) * (8 - k)).toInt64) * a)) + (((((3 * k) * k) * (8 - k)).toInt64) * b)) + ((((k * k) * k).toInt64) * c) + 256) >>> ((9 : Int32).toInt64 &&& 63)
theorem x_curveAt {post : Int64 → Prop} {k : Int32} {p a b c : Int64} (kk : post (zcv k p a b c)) : wpX_curveAt post k p a b c := nm_e (nm_e kk)
theorem y_curve {post : Int64 → Prop} {j : Nat} {p a b c : Int64} (hj : j < 9) (kk : post (zcv (nI j) p a b c)) : wpY_curve post (nI j) p a b c := by
  have c0 := (by decide +kernel : ∀ j, j < 9 → (((8 - nI j) * (8 - nI j)) * (8 - nI j)).toInt64 = ((8 - nI j).toInt64 * (8 - nI j).toInt64) * (8 - nI j).toInt64) j hj
  have c1 := (by decide +kernel : ∀ j, j < 9 → (((3 * nI j) * (8 - nI j)) * (8 - nI j)).toInt64 = ((3 * nI j).toInt64 * (8 - nI j).toInt64) * (8 - nI j).toInt64) j hj
  have c2 := (by decide +kernel : ∀ j, j < 9 → (((3 * nI j) * nI j) * (8 - nI j)).toInt64 = ((3 * (nI j).toInt64) * (nI j).toInt64) * (8 - nI j).toInt64) j hj
  have c3 := (by decide +kernel : ∀ j, j < 9 → ((nI j * nI j) * nI j).toInt64 = ((nI j).toInt64 * (nI j).toInt64) * (nI j).toInt64) j hj
  unfold zcv at kk
  rw [c0, c1, c2, c3] at kk
  exact nm_e (nm_e kk)
def Zs6 (x : Int64) : Prop := -200 ≤ x.toInt ∧ x.toInt ≤ 200
theorem zs6_mul {w p : Int64} (h0 : 0 ≤ w.toInt) (h1 : w.toInt ≤ 512) (hp : Zs6 p) : ∃ m : Int, (w * p).toInt = m ∧ -(200 * w.toInt) ≤ m ∧ m ≤ 200 * w.toInt := by
  obtain ⟨p1, p2⟩ := hp
  have m1 : w.toInt * p.toInt ≤ w.toInt * 200 := Int.mul_le_mul_of_nonneg_left p2 h0
  have m2 : w.toInt * (-200) ≤ w.toInt * p.toInt := Int.mul_le_mul_of_nonneg_left p1 h0
  refine ⟨w.toInt * p.toInt, ?_, by omega, by omega⟩
  rw [Int64.toInt_mul]
  generalize w.toInt * p.toInt = m at *
  exact Int.bmod_eq_of_le (by omega) (by omega)
theorem zs6_shr (x : Int64) : (x >>> ((9 : Int32).toInt64 &&& 63)).toInt = x.toInt / 512 := by
  show (x.toBitVec.sshiftRight (((9 : Int32).toInt64 &&& 63).toBitVec.smod 64).toNat).toInt = _
  rw [show (((9 : Int32).toInt64 &&& 63).toBitVec.smod 64).toNat = 9 by decide, BitVec.toInt_sshiftRight, Int.shiftRight_eq_div_pow]
  rfl
theorem zcv_b {j : Nat} {p a b c : Int64} (hj : j < 9) (hp : Zs6 p) (ha : Zs6 a) (hb : Zs6 b) (hc : Zs6 c) : Zs6 (zcv (nI j) p a b c) := by
  have hw := (by decide +kernel : ∀ j, j < 9 → (0 ≤ ((((8 - nI j) * (8 - nI j)) * (8 - nI j)).toInt64).toInt ∧ 0 ≤ ((((3 * nI j) * (8 - nI j)) * (8 - nI j)).toInt64).toInt ∧ 0 ≤ ((((3 * nI j) * nI j) * (8 - nI j)).toInt64).toInt ∧ 0 ≤ (((nI j * nI j) * nI j).toInt64).toInt ∧ ((((8 - nI j) * (8 - nI j)) * (8 - nI j)).toInt64).toInt + ((((3 * nI j) * (8 - nI j)) * (8 - nI j)).toInt64).toInt + ((((3 * nI j) * nI j) * (8 - nI j)).toInt64).toInt + (((nI j * nI j) * nI j).toInt64).toInt = 512)) j hj
  obtain ⟨w0, w1, w2, w3, ws⟩ := hw
  unfold Zs6 zcv
  rw [zs6_shr]
  generalize (((8 - nI j) * (8 - nI j)) * (8 - nI j)).toInt64 = W0 at *
  generalize (((3 * nI j) * (8 - nI j)) * (8 - nI j)).toInt64 = W1 at *
  generalize (((3 * nI j) * nI j) * (8 - nI j)).toInt64 = W2 at *
  generalize ((nI j * nI j) * nI j).toInt64 = W3 at *
  obtain ⟨m0, e0, l0, u0⟩ := zs6_mul w0 (by omega) hp
  obtain ⟨m1, e1, l1, u1⟩ := zs6_mul w1 (by omega) ha
  obtain ⟨m2, e2, l2, u2⟩ := zs6_mul w2 (by omega) hb
  obtain ⟨m3, e3, l3, u3⟩ := zs6_mul w3 (by omega) hc
  have s1 : (W0 * p + W1 * a).toInt = m0 + m1 := by
    rw [Int64.toInt_add, e0, e1]
    exact Int.bmod_eq_of_le (by omega) (by omega)
  have s2 : (W0 * p + W1 * a + W2 * b).toInt = m0 + m1 + m2 := by
    rw [Int64.toInt_add, s1, e2]
    exact Int.bmod_eq_of_le (by omega) (by omega)
  have s3 : (W0 * p + W1 * a + W2 * b + W3 * c).toInt = m0 + m1 + m2 + m3 := by
    rw [Int64.toInt_add, s2, e3]
    exact Int.bmod_eq_of_le (by omega) (by omega)
  have s4 : (W0 * p + W1 * a + W2 * b + W3 * c + 256).toInt = m0 + m1 + m2 + m3 + 256 := by
    rw [Int64.toInt_add, s3, show (256 : Int64).toInt = 256 by decide]
    exact Int.bmod_eq_of_le (by omega) (by omega)
  rw [s4]
  omega
theorem zs6_of {x y : Int64} (h : zof x y = 0) : Zs6 x ∧ Zs6 y := by
  unfold zof at h
  have m2 : (-200 : Int64).toInt = -200 := by decide
  have p2 : (200 : Int64).toInt = 200 := by decide
  by_cases q1 : x < -200
  · rw [if_pos q1] at h; exact absurd h (by decide)
  · rw [if_neg q1] at h
    by_cases q2 : 200 < x
    · rw [if_pos q2] at h; exact absurd h (by decide)
    · rw [if_neg q2] at h
      by_cases q3 : y < -200
      · rw [if_pos q3] at h; exact absurd h (by decide)
      · rw [if_neg q3] at h
        by_cases q4 : y ≤ 200
        · rw [z64_lt, m2] at q1 q3
          rw [z64_lt, p2] at q2
          rw [z64_le, p2] at q4
          exact ⟨⟨by omega, by omega⟩, by omega, by omega⟩
        · rw [if_neg q4] at h; exact absurd h (by decide)
theorem zof_s6 {x y : Int64} (hx : Zs6 x) (hy : Zs6 y) : zof x y = 0 := by
  obtain ⟨a1, a2⟩ := hx
  obtain ⟨b1, b2⟩ := hy
  have m2 : (-200 : Int64).toInt = -200 := by decide
  have p2 : (200 : Int64).toInt = 200 := by decide
  unfold zof
  rw [if_neg (by rw [z64_lt, m2]; omega), if_neg (by rw [z64_lt, p2]; omega), if_neg (by rw [z64_lt, m2]; omega), if_pos (by rw [z64_le, p2]; omega)]
theorem zs6_32 {x : Int32} (h : Zsm x) : Zs6 x.toInt64 := by
  unfold Zs6
  rw [z64_i]
  exact h
/-- the curve's points, counted from s -/
def zcg (s : Nat) (p a b c : Int64) (i : Nat) : Int32 := (zcv (nI (i - s + 1)) p a b c).toInt32
theorem x_cv_l {post : Int32 → SX → Prop} {s : Nat} {x2 x4 x6 x8 x10 x12 : Int64} {x15 x16 : Int32} (h48 : s + 8 ≤ 48) (K : post 0 (tc, ob, ps, su, ep, sd, bc, mA, mB, oX, oY, gY, wD, nI (s + 8), sC, tk, tv, cb, sk, sv, vk, vv, bp, br, bh, bn, bs, bl, zf px s (s + 8) (zcg s x15.toInt64 x2 x6 x10), zf py s (s + 8) (zcg s x16.toInt64 x4 x8 x12), zf pm s (s + 8) (fun _ => 0), cr, sn, sx, sy, sm, sp, dg)) :
    ∀ d j, j + d = 8 → wX_curveTo_144 post x2 x4 x6 x8 x10 x12 x15 x16 (d + 1) (nI (j + 1)) tc ob ps su ep sd bc mA mB oX oY gY wD (nI (s + j)) sC tk tv cb sk sv vk vv bp br bh bn bs bl (zf px s (s + j) (zcg s x15.toInt64 x2 x6 x10)) (zf py s (s + j) (zcg s x16.toInt64 x4 x8 x12)) (zf pm s (s + j) (fun _ => 0)) cr sn sx sy sm sp dg := by
  intro d
  induction d with
  | zero =>
    intro j hj
    have : j = 8 := by omega
    subst this
    exact qs_t 8 (8 + 1) (by omega) K
  | succ d ih =>
    intro j hj
    have stp : ∀ f g : Nat → Int32, upd (zf f s (s + j) g) (s + j) (g (s + j)) = zf f s (s + (j + 1)) g := fun f g => by
      rw [show s + (j + 1) = s + j + 1 by omega]
      exact zf_e (by omega)
    have e1 : zcg s x15.toInt64 x2 x6 x10 (s + j) = (zcv (nI (j + 1)) x15.toInt64 x2 x6 x10).toInt32 := by
      unfold zcg
      rw [show s + j - s + 1 = j + 1 by omega]
    have e2 : zcg s x16.toInt64 x4 x8 x12 (s + j) = (zcv (nI (j + 1)) x16.toInt64 x4 x8 x12).toInt32 := by
      unfold zcg
      rw [show s + j - s + 1 = j + 1 by omega]
    refine qs_f 8 (j + 1) (by omega) (x_curveAt (x_curveAt (x_append rfl (by omega) ?_)))
    rw [← e1, ← e2, stp, stp, stp pm (fun _ => 0)]
    exact nm_r (nI_1 (j + 1)) (ih (j + 1) (by omega))
theorem y_bd_l {post : SY → Prop} {s : Nat} {x3 x5 x7 x9 x11 x13 : Int64} {x1 x2 : Int32} (h9 : s ≤ 1) (p1 : Zsm x1) (p2 : Zsm x2) (a1 : Zs6 x3) (a2 : Zs6 x5) (b1 : Zs6 x7) (b2 : Zs6 x9) (c1 : Zs6 x11) (c2 : Zs6 x13) (K : post (yt, yo, yh, yi, ya, ye, yp, ys, yc, nI (s + 8), gn, bg, 0, tk, tv, dg, sk, sv, vk, vv, hw, fr, og, lf, st, la, fm, fc, gr, wi, mn, qx, qy, ss, cl, cp, zf nx s (s + 8) (zcg s x1.toInt64 x3 x7 x11), zf ny s (s + 8) (zcg s x2.toInt64 x5 x9 x13))) :
    ∀ d j, j + d = 8 → wY_bend_148 post x1 x2 x3 x5 x7 x9 x11 x13 (d + 1) (nI (j + 1)) yt yo yh yi ya ye yp ys yc (nI (s + j)) gn bg 0 tk tv dg sk sv vk vv hw fr og lf st la fm fc gr wi mn qx qy ss cl cp (zf nx s (s + j) (zcg s x1.toInt64 x3 x7 x11)) (zf ny s (s + j) (zcg s x2.toInt64 x5 x9 x13)) := by
  intro d
  induction d with
  | zero =>
    intro j hj
    have : j = 8 := by omega
    subst this
    exact qs_t 8 (8 + 1) (by omega) K
  | succ d ih =>
    intro j hj
    have stp : ∀ f g : Nat → Int32, upd (zf f s (s + j) g) (s + j) (g (s + j)) = zf f s (s + (j + 1)) g := fun f g => by
      rw [show s + (j + 1) = s + j + 1 by omega]
      exact zf_e (by omega)
    have e1 : zcg s x1.toInt64 x3 x7 x11 (s + j) = (zcv (nI (j + 1)) x1.toInt64 x3 x7 x11).toInt32 := by
      unfold zcg
      rw [show s + j - s + 1 = j + 1 by omega]
    have e2 : zcg s x2.toInt64 x5 x9 x13 (s + j) = (zcv (nI (j + 1)) x2.toInt64 x5 x9 x13).toInt32 := by
      unfold zcg
      rw [show s + j - s + 1 = j + 1 by omega]
    have ez : zof (zcv (nI (j + 1)) x1.toInt64 x3 x7 x11) (zcv (nI (j + 1)) x2.toInt64 x5 x9 x13) = 0 := zof_s6 (zcv_b (by omega) (zs6_32 p1) a1 b1 c1) (zcv_b (by omega) (zs6_32 p2) a2 b2 c2)
    refine qs_f 8 (j + 1) (by omega) (br_t rfl (y_curve (by omega) (y_curve (by omega) (y_plan rfl (by omega) (Or.inl rfl) ?_))))
    rw [← e1, ← e2, stp, stp, ez, zor_0]
    exact nm_r (nI_1 (j + 1)) (ih (j + 1) (by omega))
theorem y_ckZ {post : Int32 → SY → Prop} {op : Int32} {h z n : Nat} (hs : yh = nI h) (hh : h ≤ 24) (hn : n ≤ h) (hz : z < 1000) (h21 : op ≠ 21) (h24 : op ≠ 24) (h26 : op ≠ 26) (h27 : op ≠ 27) (h11 : op ≠ 11) (h18 : op ≠ 18) (h20 : op ≠ 20)
    (k7 : 48 < z → post 7 (yt, yo, yh, yi, ya, ye, yp, ys, yc, nw, gn, bg, wd, tk, tv, dg, sk, sv, vk, vv, hw, fr, og, lf, st, la, fm, fc, gr, wi, mn, qx, qy, ss, cl, cp, nx, ny)) (k5 : z ≤ 48 → post 5 (yt, yo, yh, yi, ya, ye, yp, ys, yc, nw, gn, bg, wd, tk, tv, dg, sk, sv, vk, vv, hw, fr, og, lf, st, la, fm, fc, gr, wi, mn, qx, qy, ss, cl, cp, nx, ny)) (hwd : wd ≠ 0) : wY_check_155 post op (nI n) (nI z) yt yo yh yi ya ye yp ys yc nw gn bg wd tk tv dg sk sv vk vv hw fr og lf st la fm fc gr wi mn qx qy ss cl cp nx ny := by
  refine pk_lt 48 z (fun q1 => k7 q1) (fun q1 => br_f h21 ?_)
  have go : ∀ x, wY_check_192 post op x yt yo yh yi ya ye yp ys yc nw gn bg wd tk tv dg sk sv vk vv hw fr og lf st la fm fc gr wi mn qx qy ss cl cp nx ny := fun x => br_f h24 (br_f h26 (br_f h27 (br_f h11 (br_f h18 (br_f h24 (br_f hwd (k5 q1)))))))
  exact pk_le n 0 (fun _ => go 0) (fun h1 => y_top (j := 0) hs rfl hh (by omega) (go _))
/-- bend, whatever it finds -/
theorem y_bend {post : SY → Prop} {x1 x2 : Int32} {h s : Nat} {Fk : Int32} (hg : ZGR mA mB oX oY fm Fk) (hs : yh = nI h) (hh : h ≤ 24) (h6 : 6 ≤ h) (hnw : nw = nI s) (h9 : s ≤ 1) (p1 : Zsm x1) (p2 : Zsm x2)
    (kw : ¬ (zof (ZDX mA mB oX (sv (h - 1 - (4 + 1))).toInt64 (sv (h - 1 - 4)).toInt64) (ZDX mA mB oY (sv (h - 1 - 4)).toInt64 (-(sv (h - 1 - (4 + 1))).toInt64)) = 0 ∧ zof (ZDX mA mB oX (sv (h - 1 - (2 + 1))).toInt64 (sv (h - 1 - 2)).toInt64) (ZDX mA mB oY (sv (h - 1 - 2)).toInt64 (-(sv (h - 1 - (2 + 1))).toInt64)) = 0 ∧ zof (ZDX mA mB oX (sv (h - 1 - (0 + 1))).toInt64 (sv (h - 1 - 0)).toInt64) (ZDX mA mB oY (sv (h - 1 - 0)).toInt64 (-(sv (h - 1 - (0 + 1))).toInt64)) = 0) → post (yt, yo, yh, yi, ya, ye, yp, ys, yc, nw, gn, bg, 1, tk, tv, dg, sk, sv, vk, vv, hw, fr, og, lf, st, la, fm, fc, gr, wi, mn, qx, qy, ss, cl, cp, nx, ny))
    (k0 : zof (ZDX mA mB oX (sv (h - 1 - (4 + 1))).toInt64 (sv (h - 1 - 4)).toInt64) (ZDX mA mB oY (sv (h - 1 - 4)).toInt64 (-(sv (h - 1 - (4 + 1))).toInt64)) = 0 → zof (ZDX mA mB oX (sv (h - 1 - (2 + 1))).toInt64 (sv (h - 1 - 2)).toInt64) (ZDX mA mB oY (sv (h - 1 - 2)).toInt64 (-(sv (h - 1 - (2 + 1))).toInt64)) = 0 → zof (ZDX mA mB oX (sv (h - 1 - (0 + 1))).toInt64 (sv (h - 1 - 0)).toInt64) (ZDX mA mB oY (sv (h - 1 - 0)).toInt64 (-(sv (h - 1 - (0 + 1))).toInt64)) = 0 → post (yt, yo, yh, yi, ya, ye, yp, ys, yc, nI (s + 8), gn, bg, 0, tk, tv, dg, sk, sv, vk, vv, hw, fr, og, lf, st, la, fm, fc, gr, wi, mn, qx, qy, ss, cl, cp, zf nx s (s + 8) (zcg s x1.toInt64 (ZDX mA mB oX (sv (h - 1 - (4 + 1))).toInt64 (sv (h - 1 - 4)).toInt64) (ZDX mA mB oX (sv (h - 1 - (2 + 1))).toInt64 (sv (h - 1 - 2)).toInt64) (ZDX mA mB oX (sv (h - 1 - (0 + 1))).toInt64 (sv (h - 1 - 0)).toInt64)), zf ny s (s + 8) (zcg s x2.toInt64 (ZDX mA mB oY (sv (h - 1 - 4)).toInt64 (-(sv (h - 1 - (4 + 1))).toInt64)) (ZDX mA mB oY (sv (h - 1 - 2)).toInt64 (-(sv (h - 1 - (2 + 1))).toInt64)) (ZDX mA mB oY (sv (h - 1 - 0)).toInt64 (-(sv (h - 1 - (0 + 1))).toInt64))))) : wpY_bend post (yt, yo, yh, yi, ya, ye, yp, ys, yc, nw, gn, bg, wd, tk, tv, dg, sk, sv, vk, vv, hw, fr, og, lf, st, la, fm, fc, gr, wi, mn, qx, qy, ss, cl, cp, nx, ny) x1 x2 := by
  unfold wpY_bend
  have tt : ∀ (j : Nat) (P : Int32 → Prop), j < h → P (sv (h - 1 - j)) → wpY_top P (yt, yo, yh, yi, ya, ye, yp, ys, yc, nw, gn, bg, wd, tk, tv, dg, sk, sv, vk, vv, hw, fr, og, lf, st, la, fm, fc, gr, wi, mn, qx, qy, ss, cl, cp, nx, ny) (nI j) := fun j P hj k => y_top (j := j) hs rfl hh hj k
  refine tt 5 _ (by omega) (tt 4 _ (by omega) (y_deviceX hg (tt 5 _ (by omega) (tt 4 _ (by omega) (y_deviceY hg (tt 3 _ (by omega) (tt 2 _ (by omega) (y_deviceX hg (tt 3 _ (by omega) (tt 2 _ (by omega) (y_deviceY hg (tt 1 _ (by omega) (tt 0 _ (by omega) (y_deviceX hg (tt 1 _ (by omega) (tt 0 _ (by omega) (y_deviceY hg (y_out ?_))))))))))))))))))
  have wide : ∀ x3 x5 x7 x9 x11 x13 : Int64, post (yt, yo, yh, yi, ya, ye, yp, ys, yc, nw, gn, bg, 1, tk, tv, dg, sk, sv, vk, vv, hw, fr, og, lf, st, la, fm, fc, gr, wi, mn, qx, qy, ss, cl, cp, nx, ny) → ∃ q, wY_bend_148 post x1 x2 x3 x5 x7 x9 x11 x13 q 1 yt yo yh yi ya ye yp ys yc nw gn bg 1 tk tv dg sk sv vk vv hw fr og lf st la fm fc gr wi mn qx qy ss cl cp nx ny := fun _ _ _ _ _ _ k => ⟨1, br_f (by decide) (br_f (by decide) k)⟩
  refine br_c (fun q1 => y_out (br_c (fun q2 => y_out (br_c (fun q3 => ?_) (fun q3 => wide _ _ _ _ _ _ (kw (fun z => q3 z.2.2))))) (fun q2 => wide _ _ _ _ _ _ (kw (fun z => q2 z.2.1))))) (fun q1 => wide _ _ _ _ _ _ (kw (fun z => q1 z.1)))
  have a := zs6_of q1
  have b := zs6_of q2
  have c := zs6_of q3
  subst hnw
  have L := y_bd_l (s := s) h9 p1 p2 a.1 a.2 b.1 b.2 c.1 c.2 (k0 q1 q2 q3) 8 0 rfl
  rw [Nat.add_zero s, zf_z, zf_z] at L
  exact ⟨9, L⟩
theorem st_curveto {t h n a c s pc : Nat} {PX : Int32 → SX → Prop} (hR : ZR t h n a c mA mB oX oY gY wD pC tk tv cb sk sv vk vv bp br bh bn bs bl px py pm cr sn sx sy sm sp hw fr og lf st la fm fc gr wi mn qx qy ss cl cp) (ha : a < t) (hk : tk a = 1) (hv : tv a = nI 33) (hpc : pC = nI pc) (hp48 : pc ≤ 48) (hE : ZE1 33 h sk pc = 0)
    (H : ∀ (e : Int32) (u' : SX) (v' : SY), ZStep a (s + 1) e u' v' → (∀ PY : SY → Prop, PY v' → wpY_execute PY (nI t, 0, nI h, nI n, nI a, 0, -1, nI (s + 1), nI c, nw, gn, bg, wd, tk, tv, dg, sk, sv, vk, vv, hw, fr, og, lf, st, la, fm, fc, gr, wi, mn, qx, qy, ss, cl, cp, nx, ny)) → PX e u') : wpX_execute PX (nI t, 0, nI a, nI s, -1, nI h, nI n, mA, mB, oX, oY, gY, wD, pC, nI c, tk, tv, cb, sk, sv, vk, vv, bp, br, bh, bn, bs, bl, px, py, pm, cr, sn, sx, sy, sm, sp, dg) (nI a) := by
  have hR' := hR
  obtain ⟨hT, hS, hV, hF, hPO, hG, hSV⟩ := hR
  have ht := hT.1
  have hh := hS.1
  have hmn := zg_mn hG hpc
  have hi : vp_in (nI a) 100 := vp_in_nI (by omega) (by omega)
  have e : (nI a).toNatClampNeg = a := zc_i (by omega)
  have ek : tk (nI a).toNatClampNeg = 1 := by rw [e]; exact hk
  have ev : tv (nI a).toNatClampNeg = nI 33 := by rw [e]; exact hv
  have hpn := po_next hPO ha (by rw [hk]; decide) (by rw [hk]; decide)
  obtain ⟨z1, z2, z3, z4⟩ := ze_0 hE
  have z1 : 6 ≤ h := z1
  have hP := zg_pt hG hpc hp48
  have hpc0 : 0 < pc := z3 (by decide) (by decide)
  obtain ⟨p, rfl⟩ : ∃ p, pc = p + 1 := ⟨pc - 1, by omega⟩
  have hl := zft_le ss p
  have h0 := hP.2.1 (by omega)
  have hcu : Zcu ss cl p ≤ p := zcu_le
  obtain ⟨d1, d2, d3, d4, d5, d6, d7⟩ := hP.2.2 (Zcu ss cl p) (by omega)
  obtain ⟨f1, f2, f3, f4, f5, f6, f7⟩ := hP.2.2 (Zft ss p) (by omega)
  have ecu : (nI (Zcu ss cl p)).toNatClampNeg = Zcu ss cl p := zc_i (by omega)
  have icu : vp_in (nI (Zcu ss cl p)) 48 := vp_in_nI (by omega) (by omega)
  have icu2 : vp_in (nI (Zcu ss cl p)) 240 := vp_in_nI (by omega) (by omega)
  have eft : (nI (Zft ss p)).toNatClampNeg = Zft ss p := zc_i (by omega)
  have ift2 : vp_in (nI (Zft ss p)) 240 := vp_in_nI (by omega) (by omega)
  refine nm_r (nI_1 s) (nm_r (nI_1 a) ⟨hi, br_t ek ⟨hi, nm_r ev (x_oe0 (by decide) hh hp48 rfl hpc hE (br_t rfl (br_t (by decide) (br_f (by decide) (br_f (by decide) (br_f (by decide) (br_t (by decide) (br_f (by decide) (br_f (by decide) (br_f (by decide) (br_t (by decide) (?_))))))))))))⟩⟩)
  unfold wX_execute_139 wpX_changePath
  refine x_opDX (j := 0) rfl rfl hh (by omega) (x_opDY (j := 0) rfl rfl hh (by omega) (br_f (by decide) (br_f (by decide) (br_f (by decide) (br_f (by decide) (br_f (by decide) (br_f (by decide) (br_f (by decide) (br_f (by decide) (br_t rfl (?_)))))))))))
  unfold wpX_curveTo
  refine x_lastClosed hP hpc ?_
  by_cases hc : cl (Zft ss p) = 0
  · rw [if_pos hc]
    have hYp : ∀ Q : Int32 → SY → Prop, (¬ (zof (ZDX mA mB oX (sv (h - 1 - (4 + 1))).toInt64 (sv (h - 1 - 4)).toInt64) (ZDX mA mB oY (sv (h - 1 - 4)).toInt64 (-(sv (h - 1 - (4 + 1))).toInt64)) = 0 ∧ zof (ZDX mA mB oX (sv (h - 1 - (2 + 1))).toInt64 (sv (h - 1 - 2)).toInt64) (ZDX mA mB oY (sv (h - 1 - 2)).toInt64 (-(sv (h - 1 - (2 + 1))).toInt64)) = 0 ∧ zof (ZDX mA mB oX (sv (h - 1 - (0 + 1))).toInt64 (sv (h - 1 - 0)).toInt64) (ZDX mA mB oY (sv (h - 1 - 0)).toInt64 (-(sv (h - 1 - (0 + 1))).toInt64)) = 0) → wY_check_155 Q (nI 33) (nI 6) (nI (p + 1 + 8)) (nI t) 0 (nI h) (nI n) (nI a) 0 (-1) (nI (s + 1)) (nI c) 0 0 0 1 tk tv dg sk sv vk vv hw fr og lf st la fm fc gr wi mn qx qy ss cl cp nx ny) → (zof (ZDX mA mB oX (sv (h - 1 - (4 + 1))).toInt64 (sv (h - 1 - 4)).toInt64) (ZDX mA mB oY (sv (h - 1 - 4)).toInt64 (-(sv (h - 1 - (4 + 1))).toInt64)) = 0 → zof (ZDX mA mB oX (sv (h - 1 - (2 + 1))).toInt64 (sv (h - 1 - 2)).toInt64) (ZDX mA mB oY (sv (h - 1 - 2)).toInt64 (-(sv (h - 1 - (2 + 1))).toInt64)) = 0 → zof (ZDX mA mB oX (sv (h - 1 - (0 + 1))).toInt64 (sv (h - 1 - 0)).toInt64) (ZDX mA mB oY (sv (h - 1 - 0)).toInt64 (-(sv (h - 1 - (0 + 1))).toInt64)) = 0 → wY_check_129 Q (nI 33) (nI 6) (nI t) 0 (nI h) (nI n) (nI a) 0 (-1) (nI (s + 1)) (nI c) (nI (0 + 8)) 0 0 0 tk tv dg sk sv vk vv hw fr og lf st la fm fc gr wi mn qx qy ss cl cp (zf nx 0 (0 + 8) (zcg 0 (px (Zcu ss cl p)).toInt64 (ZDX mA mB oX (sv (h - 1 - (4 + 1))).toInt64 (sv (h - 1 - 4)).toInt64) (ZDX mA mB oX (sv (h - 1 - (2 + 1))).toInt64 (sv (h - 1 - 2)).toInt64) (ZDX mA mB oX (sv (h - 1 - (0 + 1))).toInt64 (sv (h - 1 - 0)).toInt64))) (zf ny 0 (0 + 8) (zcg 0 (py (Zcu ss cl p)).toInt64 (ZDX mA mB oY (sv (h - 1 - 4)).toInt64 (-(sv (h - 1 - (4 + 1))).toInt64)) (ZDX mA mB oY (sv (h - 1 - 2)).toInt64 (-(sv (h - 1 - (2 + 1))).toInt64)) (ZDX mA mB oY (sv (h - 1 - 0)).toInt64 (-(sv (h - 1 - (0 + 1))).toInt64))))) → wY_check_87 Q (nI 33) (nI (ztk 33)) (nI t) 0 (nI h) (nI n) (nI a) 0 (-1) (nI (s + 1)) (nI c) nw gn bg wd tk tv dg sk sv vk vv hw fr og lf st la fm fc gr wi mn qx qy ss cl cp nx ny := by
      intro Q kw k0
      have e155 : mn 0 + 8 = nI (p + 1 + 8) := by rw [hmn]; exact nI_add (p + 1) 8
      refine br_f (by decide) (br_f (by decide) (y_pl134 (by decide) (by decide) h0 hmn (by omega) (br_f (by decide) (br_f (by decide) (br_f (by decide) (br_f (by decide) (br_t rfl (?_))))))))
      refine ⟨ift2, br_t (by rw [eft]; exact hc) ⟨rfl, rfl, br_t rfl (br_t rfl ⟨ift2, br_t (by rw [eft]; exact hc) (br_t rfl ⟨icu2, icu2, ?_⟩)⟩)⟩⟩
      rw [ecu, d1, d2]
      refine y_bend (s := 0) hG.1 rfl hh z1 rfl (by omega) d6 d7 (fun z => br_t rfl (br_f (by decide) (br_t rfl ?_))) (fun q1 q2 q3 => br_t rfl (br_t rfl (k0 q1 q2 q3)))
      unfold wY_check_125
      rw [e155]
      exact kw z
    have hY7 : ∀ (PY : SY → Prop), 48 < p + 1 + 8 → ((¬ (zof (ZDX mA mB oX (sv (h - 1 - (4 + 1))).toInt64 (sv (h - 1 - 4)).toInt64) (ZDX mA mB oY (sv (h - 1 - 4)).toInt64 (-(sv (h - 1 - (4 + 1))).toInt64)) = 0 ∧ zof (ZDX mA mB oX (sv (h - 1 - (2 + 1))).toInt64 (sv (h - 1 - 2)).toInt64) (ZDX mA mB oY (sv (h - 1 - 2)).toInt64 (-(sv (h - 1 - (2 + 1))).toInt64)) = 0 ∧ zof (ZDX mA mB oX (sv (h - 1 - (0 + 1))).toInt64 (sv (h - 1 - 0)).toInt64) (ZDX mA mB oY (sv (h - 1 - 0)).toInt64 (-(sv (h - 1 - (0 + 1))).toInt64)) = 0) → PY (nI t, 0, nI h, nI n, nI a, 7, -1, nI (s + 1), nI c, 0, 0, 0, 1, tk, tv, dg, sk, sv, vk, vv, hw, fr, og, lf, st, la, fm, fc, gr, wi, mn, qx, qy, ss, cl, cp, nx, ny))) → ((zof (ZDX mA mB oX (sv (h - 1 - (4 + 1))).toInt64 (sv (h - 1 - 4)).toInt64) (ZDX mA mB oY (sv (h - 1 - 4)).toInt64 (-(sv (h - 1 - (4 + 1))).toInt64)) = 0 ∧ zof (ZDX mA mB oX (sv (h - 1 - (2 + 1))).toInt64 (sv (h - 1 - 2)).toInt64) (ZDX mA mB oY (sv (h - 1 - 2)).toInt64 (-(sv (h - 1 - (2 + 1))).toInt64)) = 0 ∧ zof (ZDX mA mB oX (sv (h - 1 - (0 + 1))).toInt64 (sv (h - 1 - 0)).toInt64) (ZDX mA mB oY (sv (h - 1 - 0)).toInt64 (-(sv (h - 1 - (0 + 1))).toInt64)) = 0) → PY (nI t, 0, nI h, nI n, nI a, 7, -1, nI (s + 1), nI c, nI (0 + 8), 0, 0, 0, tk, tv, dg, sk, sv, vk, vv, hw, fr, og, lf, st, la, fm, fc, gr, wi, mn, qx, qy, ss, cl, cp, zf nx 0 (0 + 8) (zcg 0 (px (Zcu ss cl p)).toInt64 (ZDX mA mB oX (sv (h - 1 - (4 + 1))).toInt64 (sv (h - 1 - 4)).toInt64) (ZDX mA mB oX (sv (h - 1 - (2 + 1))).toInt64 (sv (h - 1 - 2)).toInt64) (ZDX mA mB oX (sv (h - 1 - (0 + 1))).toInt64 (sv (h - 1 - 0)).toInt64)), zf ny 0 (0 + 8) (zcg 0 (py (Zcu ss cl p)).toInt64 (ZDX mA mB oY (sv (h - 1 - 4)).toInt64 (-(sv (h - 1 - (4 + 1))).toInt64)) (ZDX mA mB oY (sv (h - 1 - 2)).toInt64 (-(sv (h - 1 - (2 + 1))).toInt64)) (ZDX mA mB oY (sv (h - 1 - 0)).toInt64 (-(sv (h - 1 - (0 + 1))).toInt64))))) → wpY_execute PY (nI t, 0, nI h, nI n, nI a, 0, -1, nI (s + 1), nI c, nw, gn, bg, wd, tk, tv, dg, sk, sv, vk, vv, hw, fr, og, lf, st, la, fm, fc, gr, wi, mn, qx, qy, ss, cl, cp, nx, ny) := by
      intro PY h48 kw k0
      refine ⟨hi, nm_r ev ⟨hi, nm_r ek (br_f (by decide) (br_f (by decide) (br_f (by decide) (br_t rfl ?_))))⟩⟩
      unfold wY_execute_245 wpY_operate
      refine y_check (by decide) hh hp48 (zst_k hS) rfl hmn (fun z => absurd hE z) (fun _ z => absurd z (by decide)) (fun _ _ _ => hYp _ (fun z => y_ckZ rfl hh z1 (by omega) (by decide) (by decide) (by decide) (by decide) (by decide) (by decide) (by decide) (fun _ => br_f (by decide) (kw z)) (fun z => by omega) (by decide)) (fun q1 q2 q3 => y_ckP (g := 0) (q := 8) rfl hh z1 hmn hp48 rfl (by omega) rfl (by omega) (by decide) (by decide) (by decide) (by decide) (by decide) (by decide) (by decide) (by decide) (by decide) (by decide) (by decide) (by decide) (by decide) (fun _ => br_f (by decide) (k0 ⟨q1, q2, q3⟩)) (fun z => by omega) (fun z => by omega)))
    refine br_t rfl ?_
    have hle : pC + 8 + 0 = nI (p + 1 + 8) := by
      rw [hpc]
      rw [Int32.add_zero]; exact nI_add (p + 1) 8
    refine pk_le (p + 1 + 8) 48 (fun h48 => ?_) (fun h48 => ?_) hle
    · refine x_opDX (j := 4) rfl rfl hh (by omega) (x_opDY (j := 4) rfl rfl hh (by omega) (x_opDX (j := 2) rfl rfl hh (by omega) (x_opDY (j := 2) rfl rfl hh (by omega) (x_opDX (j := 0) rfl rfl hh (by omega) (x_opDY (j := 0) rfl rfl hh (by omega) (x_off ?_))))))
      have err5 : ¬ (zof (ZDX mA mB oX (sv (h - 1 - (4 + 1))).toInt64 (sv (h - 1 - 4)).toInt64) (ZDX mA mB oY (sv (h - 1 - 4)).toInt64 (-(sv (h - 1 - (4 + 1))).toInt64)) = 0 ∧ zof (ZDX mA mB oX (sv (h - 1 - (2 + 1))).toInt64 (sv (h - 1 - 2)).toInt64) (ZDX mA mB oY (sv (h - 1 - 2)).toInt64 (-(sv (h - 1 - (2 + 1))).toInt64)) = 0 ∧ zof (ZDX mA mB oX (sv (h - 1 - (0 + 1))).toInt64 (sv (h - 1 - 0)).toInt64) (ZDX mA mB oY (sv (h - 1 - 0)).toInt64 (-(sv (h - 1 - (0 + 1))).toInt64)) = 0) → wX_execute_153 PX (nI 33) 5 (nI t) 0 (nI (a + 1)) (nI (s + 1)) (-1) (nI h) (nI n) mA mB oX oY gY wD pC (nI c) tk tv cb sk sv vk vv bp br bh bn bs bl px py pm cr sn sx sy sm sp dg := fun z => x_153e (by decide) (H 5 _ (nI t, 0, nI h, nI n, nI a, 5, -1, nI (s + 1), nI c, 0, 0, 0, 1, tk, tv, dg, sk, sv, vk, vv, hw, fr, og, lf, st, la, fm, fc, gr, wi, mn, qx, qy, ss, cl, cp, nx, ny) (zs_er hR' (by decide)) (fun PY hp => by
        refine ⟨hi, nm_r ev ⟨hi, nm_r ek (br_f (by decide) (br_f (by decide) (br_f (by decide) (br_t rfl ?_))))⟩⟩
        unfold wY_execute_245 wpY_operate
        refine y_check (by decide) hh hp48 (zst_k hS) rfl hmn (fun z => absurd hE z) (fun _ z => absurd z (by decide)) (fun _ _ _ => hYp _ (fun z => y_ckZ rfl hh z1 (by omega) (by decide) (by decide) (by decide) (by decide) (by decide) (by decide) (by decide) (fun z => by omega) (fun _ => br_f (by decide) hp) (by decide)) (fun q1 q2 q3 => absurd ⟨q1, q2, q3⟩ z))))
      refine br_c (fun q1 => x_off (br_c (fun q2 => x_off (br_c (fun q3 => ?_) (fun q3 => err5 (fun z => q3 z.2.2)))) (fun q2 => err5 (fun z => q2 z.2.1)))) (fun q1 => err5 (fun z => q1 z.1))
      have za := zs6_of q1
      have zb := zs6_of q2
      have zc := zs6_of q3
      refine x_curPt hP hpc ⟨icu, nm_r (congrArg px ecu) ⟨icu, nm_r (congrArg py ecu) ?_⟩⟩
      subst hpc
      have L : ∀ post : Int32 → SX → Prop, post 0 (nI t, 0, nI (a + 1), nI (s + 1), -1, nI h, nI n, mA, mB, oX, oY, gY, wD, nI (p + 1 + 8), nI c, tk, tv, cb, sk, sv, vk, vv, bp, br, bh, bn, bs, bl, zf px (p + 1) (p + 1 + 8) (zcg (p + 1) (px (Zcu ss cl p)).toInt64 (ZDX mA mB oX (sv (h - 1 - (4 + 1))).toInt64 (sv (h - 1 - 4)).toInt64) (ZDX mA mB oX (sv (h - 1 - (2 + 1))).toInt64 (sv (h - 1 - 2)).toInt64) (ZDX mA mB oX (sv (h - 1 - (0 + 1))).toInt64 (sv (h - 1 - 0)).toInt64)), zf py (p + 1) (p + 1 + 8) (zcg (p + 1) (py (Zcu ss cl p)).toInt64 (ZDX mA mB oY (sv (h - 1 - 4)).toInt64 (-(sv (h - 1 - (4 + 1))).toInt64)) (ZDX mA mB oY (sv (h - 1 - 2)).toInt64 (-(sv (h - 1 - (2 + 1))).toInt64)) (ZDX mA mB oY (sv (h - 1 - 0)).toInt64 (-(sv (h - 1 - (0 + 1))).toInt64))), zf pm (p + 1) (p + 1 + 8) (fun _ => 0), cr, sn, sx, sy, sm, sp, dg) → wX_curveTo_144 post (ZDX mA mB oX (sv (h - 1 - (4 + 1))).toInt64 (sv (h - 1 - 4)).toInt64) (ZDX mA mB oY (sv (h - 1 - 4)).toInt64 (-(sv (h - 1 - (4 + 1))).toInt64)) (ZDX mA mB oX (sv (h - 1 - (2 + 1))).toInt64 (sv (h - 1 - 2)).toInt64) (ZDX mA mB oY (sv (h - 1 - 2)).toInt64 (-(sv (h - 1 - (2 + 1))).toInt64)) (ZDX mA mB oX (sv (h - 1 - (0 + 1))).toInt64 (sv (h - 1 - 0)).toInt64) (ZDX mA mB oY (sv (h - 1 - 0)).toInt64 (-(sv (h - 1 - (0 + 1))).toInt64)) (px (Zcu ss cl p)) (py (Zcu ss cl p)) 9 1 (nI t) 0 (nI (a + 1)) (nI (s + 1)) (-1) (nI h) (nI n) mA mB oX oY gY wD (nI (p + 1)) (nI c) tk tv cb sk sv vk vv bp br bh bn bs bl px py pm cr sn sx sy sm sp dg := by
        intro post k
        have L := x_cv_l (s := p + 1) h48 k 8 0 rfl
        rw [Nat.add_zero (p + 1), zf_z, zf_z, zf_z] at L
        exact L
      refine br_t rfl ⟨9, L _ (x_153 (n := 6) (by decide) rfl z1 rfl (H 0 _ (nI t, 0, nI (h - 6), nI n, nI a + 1, 0, -1, nI (s + 1), nI c, nI (0 + 8), 0, 0, 0, tk, tv, dg, sk, sv, vk, vv, hw, fr, og, lf, st, la, fm, fc, gr, wi, upd mn 0 (nI (p + 1 + 8)), zf qx (p + 1) (p + 1 + 8) (fun i => (zf nx 0 (0 + 8) (zcg 0 (px (Zcu ss cl p)).toInt64 (ZDX mA mB oX (sv (h - 1 - (4 + 1))).toInt64 (sv (h - 1 - 4)).toInt64) (ZDX mA mB oX (sv (h - 1 - (2 + 1))).toInt64 (sv (h - 1 - 2)).toInt64) (ZDX mA mB oX (sv (h - 1 - (0 + 1))).toInt64 (sv (h - 1 - 0)).toInt64))) (i - (p + 1))), zf qy (p + 1) (p + 1 + 8) (fun i => (zf ny 0 (0 + 8) (zcg 0 (py (Zcu ss cl p)).toInt64 (ZDX mA mB oY (sv (h - 1 - 4)).toInt64 (-(sv (h - 1 - (4 + 1))).toInt64)) (ZDX mA mB oY (sv (h - 1 - 2)).toInt64 (-(sv (h - 1 - (2 + 1))).toInt64)) (ZDX mA mB oY (sv (h - 1 - 0)).toInt64 (-(sv (h - 1 - (0 + 1))).toInt64)))) (i - (p + 1))), zf ss (p + 1) (p + 1 + 8) (fun i => if (0 : Int32) ≠ 0 ∧ i = p + 1 then 1 else 0), zf cl (p + 1) (p + 1 + 8) (fun _ => 0), cp, zf nx 0 (0 + 8) (zcg 0 (px (Zcu ss cl p)).toInt64 (ZDX mA mB oX (sv (h - 1 - (4 + 1))).toInt64 (sv (h - 1 - 4)).toInt64) (ZDX mA mB oX (sv (h - 1 - (2 + 1))).toInt64 (sv (h - 1 - 2)).toInt64) (ZDX mA mB oX (sv (h - 1 - (0 + 1))).toInt64 (sv (h - 1 - 0)).toInt64)), zf ny 0 (0 + 8) (zcg 0 (py (Zcu ss cl p)).toInt64 (ZDX mA mB oY (sv (h - 1 - 4)).toInt64 (-(sv (h - 1 - (4 + 1))).toInt64)) (ZDX mA mB oY (sv (h - 1 - 2)).toInt64 (-(sv (h - 1 - (2 + 1))).toInt64)) (ZDX mA mB oY (sv (h - 1 - 0)).toInt64 (-(sv (h - 1 - (0 + 1))).toInt64)))) (zs_ok ⟨hT, zst_le hS (by omega), hV, hF, hpn, zgs_path (q := p + 1 + 8) hG (zpt_extN hP hc (by omega) (fun k hk => ⟨zf_lo hk, zf_lo hk, zf_lo hk, zf_lo hk, zf_lo hk, zf_lo hk, zf_lo hk⟩) (fun k h1 h2 => ?_) (fun k h1 h2 => ?_)), zsv_up hSV zr_i zr_i zr_i zr_i zr_u (fun i hi => zf_hi (by omega)) (fun i hi => zf_hi (by omega)) (fun i hi => zf_hi (by omega)) (fun i hi => zf_hi (by omega)) zr_i⟩ rfl (nI_1 a) rfl rfl rfl rfl rfl rfl) (fun PY hp => ?_)))⟩
      · have e1 : zcg 0 (px (Zcu ss cl p)).toInt64 (ZDX mA mB oX (sv (h - 1 - (4 + 1))).toInt64 (sv (h - 1 - 4)).toInt64) (ZDX mA mB oX (sv (h - 1 - (2 + 1))).toInt64 (sv (h - 1 - 2)).toInt64) (ZDX mA mB oX (sv (h - 1 - (0 + 1))).toInt64 (sv (h - 1 - 0)).toInt64) (k - (p + 1)) = zcg (p + 1) (px (Zcu ss cl p)).toInt64 (ZDX mA mB oX (sv (h - 1 - (4 + 1))).toInt64 (sv (h - 1 - 4)).toInt64) (ZDX mA mB oX (sv (h - 1 - (2 + 1))).toInt64 (sv (h - 1 - 2)).toInt64) (ZDX mA mB oX (sv (h - 1 - (0 + 1))).toInt64 (sv (h - 1 - 0)).toInt64) k := by
          unfold zcg
          rw [show k - (p + 1) - 0 + 1 = k - (p + 1) + 1 by omega]
        have e2 : zcg 0 (py (Zcu ss cl p)).toInt64 (ZDX mA mB oY (sv (h - 1 - 4)).toInt64 (-(sv (h - 1 - (4 + 1))).toInt64)) (ZDX mA mB oY (sv (h - 1 - 2)).toInt64 (-(sv (h - 1 - (2 + 1))).toInt64)) (ZDX mA mB oY (sv (h - 1 - 0)).toInt64 (-(sv (h - 1 - (0 + 1))).toInt64)) (k - (p + 1)) = zcg (p + 1) (py (Zcu ss cl p)).toInt64 (ZDX mA mB oY (sv (h - 1 - 4)).toInt64 (-(sv (h - 1 - (4 + 1))).toInt64)) (ZDX mA mB oY (sv (h - 1 - 2)).toInt64 (-(sv (h - 1 - (2 + 1))).toInt64)) (ZDX mA mB oY (sv (h - 1 - 0)).toInt64 (-(sv (h - 1 - (0 + 1))).toInt64)) k := by
          unfold zcg
          rw [show k - (p + 1) - 0 + 1 = k - (p + 1) + 1 by omega]
        rw [zf_in (a := qx) (by omega) (by omega), zf_in (a := qy) (by omega) (by omega), zf_in (a := cl) (by omega) (by omega), zf_in (a := px) (by omega) (by omega), zf_in (a := py) (by omega) (by omega), zf_in (a := nx) (by omega) (by omega), zf_in (a := ny) (by omega) (by omega), e1, e2]
        have hb := zof_0 (zof_s6 (zcv_b (j := k - (p + 1) + 1) (by omega) (zs6_32 d6) za.1 zb.1 zc.1) (zcv_b (j := k - (p + 1) + 1) (by omega) (zs6_32 d7) za.2 zb.2 zc.2))
        exact ⟨rfl, rfl, rfl, hb.1, hb.2⟩
      · rw [zf_in (by omega) (by omega), zf_in (by omega) (by omega), if_neg (fun z => z.1 rfl)]
        exact ⟨rfl, rfl⟩
      · refine ⟨hi, nm_r ev ⟨hi, nm_r ek (br_f (by decide) (br_f (by decide) (br_f (by decide) (br_t rfl ?_))))⟩⟩
        unfold wY_execute_245 wpY_operate
        refine y_check (by decide) hh hp48 (zst_k hS) rfl hmn (fun z => absurd hE z) (fun _ z => absurd z (by decide)) (fun _ _ _ => hYp _ (fun z => absurd ⟨q1, q2, q3⟩ z) (fun _ _ _ => y_ckP (g := 0) (q := 8) rfl hh z1 hmn hp48 rfl (by omega) rfl (by omega) (by decide) (by decide) (by decide) (by decide) (by decide) (by decide) (by decide) (by decide) (by decide) (by decide) (by decide) (by decide) (by decide) (fun z => by omega) (fun _ z => absurd rfl z) (fun _ _ => br_t rfl ?_)))
        refine br_t (by decide) (br_t (by decide) (br_t (by decide) (br_t (by decide) (?_))))
        unfold wY_operate_71
        exact y_path (m := p + 1) (q := 8) (n := 6) (g := 0) (by decide) (by decide) rfl z1 rfl (by omega) (by omega) (Or.inl rfl) (by decide) rfl rfl hmn (by omega) (by omega) hp48 (fun z => absurd z (by decide)) (fun _ => br_f (by decide) (nm_e hp))
    · by_cases q : zof (ZDX mA mB oX (sv (h - 1 - (4 + 1))).toInt64 (sv (h - 1 - 4)).toInt64) (ZDX mA mB oY (sv (h - 1 - 4)).toInt64 (-(sv (h - 1 - (4 + 1))).toInt64)) = 0 ∧ zof (ZDX mA mB oX (sv (h - 1 - (2 + 1))).toInt64 (sv (h - 1 - 2)).toInt64) (ZDX mA mB oY (sv (h - 1 - 2)).toInt64 (-(sv (h - 1 - (2 + 1))).toInt64)) = 0 ∧ zof (ZDX mA mB oX (sv (h - 1 - (0 + 1))).toInt64 (sv (h - 1 - 0)).toInt64) (ZDX mA mB oY (sv (h - 1 - 0)).toInt64 (-(sv (h - 1 - (0 + 1))).toInt64)) = 0
      · exact x_153e (by decide) (H 7 _ (nI t, 0, nI h, nI n, nI a, 7, -1, nI (s + 1), nI c, nI (0 + 8), 0, 0, 0, tk, tv, dg, sk, sv, vk, vv, hw, fr, og, lf, st, la, fm, fc, gr, wi, mn, qx, qy, ss, cl, cp, zf nx 0 (0 + 8) (zcg 0 (px (Zcu ss cl p)).toInt64 (ZDX mA mB oX (sv (h - 1 - (4 + 1))).toInt64 (sv (h - 1 - 4)).toInt64) (ZDX mA mB oX (sv (h - 1 - (2 + 1))).toInt64 (sv (h - 1 - 2)).toInt64) (ZDX mA mB oX (sv (h - 1 - (0 + 1))).toInt64 (sv (h - 1 - 0)).toInt64)), zf ny 0 (0 + 8) (zcg 0 (py (Zcu ss cl p)).toInt64 (ZDX mA mB oY (sv (h - 1 - 4)).toInt64 (-(sv (h - 1 - (4 + 1))).toInt64)) (ZDX mA mB oY (sv (h - 1 - 2)).toInt64 (-(sv (h - 1 - (2 + 1))).toInt64)) (ZDX mA mB oY (sv (h - 1 - 0)).toInt64 (-(sv (h - 1 - (0 + 1))).toInt64)))) (zs_er hR' (by decide)) (fun PY hp => hY7 PY h48 (fun z => absurd q z) (fun _ => hp)))
      · exact x_153e (by decide) (H 7 _ (nI t, 0, nI h, nI n, nI a, 7, -1, nI (s + 1), nI c, 0, 0, 0, 1, tk, tv, dg, sk, sv, vk, vv, hw, fr, og, lf, st, la, fm, fc, gr, wi, mn, qx, qy, ss, cl, cp, nx, ny) (zs_er hR' (by decide)) (fun PY hp => hY7 PY h48 (fun _ => hp) (fun z => absurd z q)))
  · rw [if_neg hc]
    have hYp : ∀ Q : Int32 → SY → Prop, (¬ (zof (ZDX mA mB oX (sv (h - 1 - (4 + 1))).toInt64 (sv (h - 1 - 4)).toInt64) (ZDX mA mB oY (sv (h - 1 - 4)).toInt64 (-(sv (h - 1 - (4 + 1))).toInt64)) = 0 ∧ zof (ZDX mA mB oX (sv (h - 1 - (2 + 1))).toInt64 (sv (h - 1 - 2)).toInt64) (ZDX mA mB oY (sv (h - 1 - 2)).toInt64 (-(sv (h - 1 - (2 + 1))).toInt64)) = 0 ∧ zof (ZDX mA mB oX (sv (h - 1 - (0 + 1))).toInt64 (sv (h - 1 - 0)).toInt64) (ZDX mA mB oY (sv (h - 1 - 0)).toInt64 (-(sv (h - 1 - (0 + 1))).toInt64)) = 0) → wY_check_155 Q (nI 33) (nI 6) (nI (p + 1 + 9)) (nI t) 0 (nI h) (nI n) (nI a) 0 (-1) (nI (s + 1)) (nI c) (nI (0 + 1)) 0 1 1 tk tv dg sk sv vk vv hw fr og lf st la fm fc gr wi mn qx qy ss cl cp (upd nx 0 ((px (Zft ss p)).toInt64).toInt32) (upd ny 0 ((py (Zft ss p)).toInt64).toInt32)) → (zof (ZDX mA mB oX (sv (h - 1 - (4 + 1))).toInt64 (sv (h - 1 - 4)).toInt64) (ZDX mA mB oY (sv (h - 1 - 4)).toInt64 (-(sv (h - 1 - (4 + 1))).toInt64)) = 0 → zof (ZDX mA mB oX (sv (h - 1 - (2 + 1))).toInt64 (sv (h - 1 - 2)).toInt64) (ZDX mA mB oY (sv (h - 1 - 2)).toInt64 (-(sv (h - 1 - (2 + 1))).toInt64)) = 0 → zof (ZDX mA mB oX (sv (h - 1 - (0 + 1))).toInt64 (sv (h - 1 - 0)).toInt64) (ZDX mA mB oY (sv (h - 1 - 0)).toInt64 (-(sv (h - 1 - (0 + 1))).toInt64)) = 0 → wY_check_129 Q (nI 33) (nI 6) (nI t) 0 (nI h) (nI n) (nI a) 0 (-1) (nI (s + 1)) (nI c) (nI (1 + 8)) 0 1 0 tk tv dg sk sv vk vv hw fr og lf st la fm fc gr wi mn qx qy ss cl cp (zf (upd nx 0 ((px (Zft ss p)).toInt64).toInt32) 1 (1 + 8) (zcg 1 (px (Zcu ss cl p)).toInt64 (ZDX mA mB oX (sv (h - 1 - (4 + 1))).toInt64 (sv (h - 1 - 4)).toInt64) (ZDX mA mB oX (sv (h - 1 - (2 + 1))).toInt64 (sv (h - 1 - 2)).toInt64) (ZDX mA mB oX (sv (h - 1 - (0 + 1))).toInt64 (sv (h - 1 - 0)).toInt64))) (zf (upd ny 0 ((py (Zft ss p)).toInt64).toInt32) 1 (1 + 8) (zcg 1 (py (Zcu ss cl p)).toInt64 (ZDX mA mB oY (sv (h - 1 - 4)).toInt64 (-(sv (h - 1 - (4 + 1))).toInt64)) (ZDX mA mB oY (sv (h - 1 - 2)).toInt64 (-(sv (h - 1 - (2 + 1))).toInt64)) (ZDX mA mB oY (sv (h - 1 - 0)).toInt64 (-(sv (h - 1 - (0 + 1))).toInt64))))) → wY_check_87 Q (nI 33) (nI (ztk 33)) (nI t) 0 (nI h) (nI n) (nI a) 0 (-1) (nI (s + 1)) (nI c) nw gn bg wd tk tv dg sk sv vk vv hw fr og lf st la fm fc gr wi mn qx qy ss cl cp nx ny := by
      intro Q kw k0
      have e155 : mn 0 + 9 = nI (p + 1 + 9) := by rw [hmn]; exact nI_add (p + 1) 9
      refine br_f (by decide) (br_f (by decide) (y_pl134 (by decide) (by decide) h0 hmn (by omega) (br_f (by decide) (br_f (by decide) (br_f (by decide) (br_f (by decide) (br_t rfl (?_))))))))
      refine ⟨ift2, br_f (by rw [eft]; exact hc) ⟨rfl, rfl, br_t rfl (br_t rfl ⟨ift2, br_f (by rw [eft]; exact hc) ⟨ift2, ift2, ?_⟩⟩)⟩⟩
      rw [eft, f1, f2]
      refine y_plan (q := 0) rfl (by omega) (Or.inl rfl) (br_t rfl ⟨icu2, icu2, ?_⟩)
      rw [ecu, d1, d2]
      refine y_bend (s := 1) hG.1 rfl hh z1 rfl (by omega) d6 d7 (fun z => br_t rfl (br_f (by decide) (br_f (by decide) ?_))) (fun q1 q2 q3 => br_t rfl (br_t rfl (k0 q1 q2 q3)))
      unfold wY_check_125
      rw [e155]
      exact kw z
    have hY7 : ∀ (PY : SY → Prop), 48 < p + 1 + 9 → ((¬ (zof (ZDX mA mB oX (sv (h - 1 - (4 + 1))).toInt64 (sv (h - 1 - 4)).toInt64) (ZDX mA mB oY (sv (h - 1 - 4)).toInt64 (-(sv (h - 1 - (4 + 1))).toInt64)) = 0 ∧ zof (ZDX mA mB oX (sv (h - 1 - (2 + 1))).toInt64 (sv (h - 1 - 2)).toInt64) (ZDX mA mB oY (sv (h - 1 - 2)).toInt64 (-(sv (h - 1 - (2 + 1))).toInt64)) = 0 ∧ zof (ZDX mA mB oX (sv (h - 1 - (0 + 1))).toInt64 (sv (h - 1 - 0)).toInt64) (ZDX mA mB oY (sv (h - 1 - 0)).toInt64 (-(sv (h - 1 - (0 + 1))).toInt64)) = 0) → PY (nI t, 0, nI h, nI n, nI a, 7, -1, nI (s + 1), nI c, nI (0 + 1), 0, 1, 1, tk, tv, dg, sk, sv, vk, vv, hw, fr, og, lf, st, la, fm, fc, gr, wi, mn, qx, qy, ss, cl, cp, (upd nx 0 ((px (Zft ss p)).toInt64).toInt32), (upd ny 0 ((py (Zft ss p)).toInt64).toInt32)))) → ((zof (ZDX mA mB oX (sv (h - 1 - (4 + 1))).toInt64 (sv (h - 1 - 4)).toInt64) (ZDX mA mB oY (sv (h - 1 - 4)).toInt64 (-(sv (h - 1 - (4 + 1))).toInt64)) = 0 ∧ zof (ZDX mA mB oX (sv (h - 1 - (2 + 1))).toInt64 (sv (h - 1 - 2)).toInt64) (ZDX mA mB oY (sv (h - 1 - 2)).toInt64 (-(sv (h - 1 - (2 + 1))).toInt64)) = 0 ∧ zof (ZDX mA mB oX (sv (h - 1 - (0 + 1))).toInt64 (sv (h - 1 - 0)).toInt64) (ZDX mA mB oY (sv (h - 1 - 0)).toInt64 (-(sv (h - 1 - (0 + 1))).toInt64)) = 0) → PY (nI t, 0, nI h, nI n, nI a, 7, -1, nI (s + 1), nI c, nI (1 + 8), 0, 1, 0, tk, tv, dg, sk, sv, vk, vv, hw, fr, og, lf, st, la, fm, fc, gr, wi, mn, qx, qy, ss, cl, cp, zf (upd nx 0 ((px (Zft ss p)).toInt64).toInt32) 1 (1 + 8) (zcg 1 (px (Zcu ss cl p)).toInt64 (ZDX mA mB oX (sv (h - 1 - (4 + 1))).toInt64 (sv (h - 1 - 4)).toInt64) (ZDX mA mB oX (sv (h - 1 - (2 + 1))).toInt64 (sv (h - 1 - 2)).toInt64) (ZDX mA mB oX (sv (h - 1 - (0 + 1))).toInt64 (sv (h - 1 - 0)).toInt64)), zf (upd ny 0 ((py (Zft ss p)).toInt64).toInt32) 1 (1 + 8) (zcg 1 (py (Zcu ss cl p)).toInt64 (ZDX mA mB oY (sv (h - 1 - 4)).toInt64 (-(sv (h - 1 - (4 + 1))).toInt64)) (ZDX mA mB oY (sv (h - 1 - 2)).toInt64 (-(sv (h - 1 - (2 + 1))).toInt64)) (ZDX mA mB oY (sv (h - 1 - 0)).toInt64 (-(sv (h - 1 - (0 + 1))).toInt64))))) → wpY_execute PY (nI t, 0, nI h, nI n, nI a, 0, -1, nI (s + 1), nI c, nw, gn, bg, wd, tk, tv, dg, sk, sv, vk, vv, hw, fr, og, lf, st, la, fm, fc, gr, wi, mn, qx, qy, ss, cl, cp, nx, ny) := by
      intro PY h48 kw k0
      refine ⟨hi, nm_r ev ⟨hi, nm_r ek (br_f (by decide) (br_f (by decide) (br_f (by decide) (br_t rfl ?_))))⟩⟩
      unfold wY_execute_245 wpY_operate
      refine y_check (by decide) hh hp48 (zst_k hS) rfl hmn (fun z => absurd hE z) (fun _ z => absurd z (by decide)) (fun _ _ _ => hYp _ (fun z => y_ckZ rfl hh z1 (by omega) (by decide) (by decide) (by decide) (by decide) (by decide) (by decide) (by decide) (fun _ => br_f (by decide) (kw z)) (fun z => by omega) (by decide)) (fun q1 q2 q3 => y_ckP (g := 0) (q := 9) rfl hh z1 hmn hp48 rfl (by omega) rfl (by omega) (by decide) (by decide) (by decide) (by decide) (by decide) (by decide) (by decide) (by decide) (by decide) (by decide) (by decide) (by decide) (by decide) (fun _ => br_f (by decide) (k0 ⟨q1, q2, q3⟩)) (fun z => by omega) (fun z => by omega)))
    refine br_f (by decide) ?_
    have hle : pC + 8 + 1 = nI (p + 1 + 9) := by
      rw [hpc]
      exact (nI_add (p + 1 + 8) 1 ▸ congrArg (· + 1) (nI_add (p + 1) 8))
    refine pk_le (p + 1 + 9) 48 (fun h48 => ?_) (fun h48 => ?_) hle
    · refine x_opDX (j := 4) rfl rfl hh (by omega) (x_opDY (j := 4) rfl rfl hh (by omega) (x_opDX (j := 2) rfl rfl hh (by omega) (x_opDY (j := 2) rfl rfl hh (by omega) (x_opDX (j := 0) rfl rfl hh (by omega) (x_opDY (j := 0) rfl rfl hh (by omega) (x_off ?_))))))
      have err5 : ¬ (zof (ZDX mA mB oX (sv (h - 1 - (4 + 1))).toInt64 (sv (h - 1 - 4)).toInt64) (ZDX mA mB oY (sv (h - 1 - 4)).toInt64 (-(sv (h - 1 - (4 + 1))).toInt64)) = 0 ∧ zof (ZDX mA mB oX (sv (h - 1 - (2 + 1))).toInt64 (sv (h - 1 - 2)).toInt64) (ZDX mA mB oY (sv (h - 1 - 2)).toInt64 (-(sv (h - 1 - (2 + 1))).toInt64)) = 0 ∧ zof (ZDX mA mB oX (sv (h - 1 - (0 + 1))).toInt64 (sv (h - 1 - 0)).toInt64) (ZDX mA mB oY (sv (h - 1 - 0)).toInt64 (-(sv (h - 1 - (0 + 1))).toInt64)) = 0) → wX_execute_153 PX (nI 33) 5 (nI t) 0 (nI (a + 1)) (nI (s + 1)) (-1) (nI h) (nI n) mA mB oX oY gY wD pC (nI c) tk tv cb sk sv vk vv bp br bh bn bs bl px py pm cr sn sx sy sm sp dg := fun z => x_153e (by decide) (H 5 _ (nI t, 0, nI h, nI n, nI a, 5, -1, nI (s + 1), nI c, nI (0 + 1), 0, 1, 1, tk, tv, dg, sk, sv, vk, vv, hw, fr, og, lf, st, la, fm, fc, gr, wi, mn, qx, qy, ss, cl, cp, (upd nx 0 ((px (Zft ss p)).toInt64).toInt32), (upd ny 0 ((py (Zft ss p)).toInt64).toInt32)) (zs_er hR' (by decide)) (fun PY hp => by
        refine ⟨hi, nm_r ev ⟨hi, nm_r ek (br_f (by decide) (br_f (by decide) (br_f (by decide) (br_t rfl ?_))))⟩⟩
        unfold wY_execute_245 wpY_operate
        refine y_check (by decide) hh hp48 (zst_k hS) rfl hmn (fun z => absurd hE z) (fun _ z => absurd z (by decide)) (fun _ _ _ => hYp _ (fun z => y_ckZ rfl hh z1 (by omega) (by decide) (by decide) (by decide) (by decide) (by decide) (by decide) (by decide) (fun z => by omega) (fun _ => br_f (by decide) hp) (by decide)) (fun q1 q2 q3 => absurd ⟨q1, q2, q3⟩ z))))
      refine br_c (fun q1 => x_off (br_c (fun q2 => x_off (br_c (fun q3 => ?_) (fun q3 => err5 (fun z => q3 z.2.2)))) (fun q2 => err5 (fun z => q2 z.2.1)))) (fun q1 => err5 (fun z => q1 z.1))
      have za := zs6_of q1
      have zb := zs6_of q2
      have zc := zs6_of q3
      refine x_curPt hP hpc ⟨icu, nm_r (congrArg px ecu) ⟨icu, nm_r (congrArg py ecu) ?_⟩⟩
      subst hpc
      have hcz : Zcu ss cl p = Zft ss p := if_neg hc
      have L : ∀ post : Int32 → SX → Prop, post 0 (nI t, 0, nI (a + 1), nI (s + 1), -1, nI h, nI n, mA, mB, oX, oY, gY, wD, nI (p + 1 + 1 + 8), nI c, tk, tv, cb, sk, sv, vk, vv, bp, br, bh, bn, bs, bl, zf (upd px (p + 1) (px (Zcu ss cl p)).toInt64.toInt32) (p + 1 + 1) (p + 1 + 1 + 8) (zcg (p + 1 + 1) (px (Zcu ss cl p)).toInt64 (ZDX mA mB oX (sv (h - 1 - (4 + 1))).toInt64 (sv (h - 1 - 4)).toInt64) (ZDX mA mB oX (sv (h - 1 - (2 + 1))).toInt64 (sv (h - 1 - 2)).toInt64) (ZDX mA mB oX (sv (h - 1 - (0 + 1))).toInt64 (sv (h - 1 - 0)).toInt64)), zf (upd py (p + 1) (py (Zcu ss cl p)).toInt64.toInt32) (p + 1 + 1) (p + 1 + 1 + 8) (zcg (p + 1 + 1) (py (Zcu ss cl p)).toInt64 (ZDX mA mB oY (sv (h - 1 - 4)).toInt64 (-(sv (h - 1 - (4 + 1))).toInt64)) (ZDX mA mB oY (sv (h - 1 - 2)).toInt64 (-(sv (h - 1 - (2 + 1))).toInt64)) (ZDX mA mB oY (sv (h - 1 - 0)).toInt64 (-(sv (h - 1 - (0 + 1))).toInt64))), zf (upd pm (p + 1) 1) (p + 1 + 1) (p + 1 + 1 + 8) (fun _ => 0), cr, sn, sx, sy, sm, sp, dg) → wX_curveTo_144 post (ZDX mA mB oX (sv (h - 1 - (4 + 1))).toInt64 (sv (h - 1 - 4)).toInt64) (ZDX mA mB oY (sv (h - 1 - 4)).toInt64 (-(sv (h - 1 - (4 + 1))).toInt64)) (ZDX mA mB oX (sv (h - 1 - (2 + 1))).toInt64 (sv (h - 1 - 2)).toInt64) (ZDX mA mB oY (sv (h - 1 - 2)).toInt64 (-(sv (h - 1 - (2 + 1))).toInt64)) (ZDX mA mB oX (sv (h - 1 - (0 + 1))).toInt64 (sv (h - 1 - 0)).toInt64) (ZDX mA mB oY (sv (h - 1 - 0)).toInt64 (-(sv (h - 1 - (0 + 1))).toInt64)) (px (Zcu ss cl p)) (py (Zcu ss cl p)) 9 1 (nI t) 0 (nI (a + 1)) (nI (s + 1)) (-1) (nI h) (nI n) mA mB oX oY gY wD (nI (p + 1 + 1)) (nI c) tk tv cb sk sv vk vv bp br bh bn bs bl (upd px (p + 1) (px (Zcu ss cl p)).toInt64.toInt32) (upd py (p + 1) (py (Zcu ss cl p)).toInt64.toInt32) (upd pm (p + 1) 1) cr sn sx sy sm sp dg := by
        intro post k
        have L := x_cv_l (s := p + 1 + 1) (by omega) k 8 0 rfl
        rw [Nat.add_zero (p + 1 + 1), zf_z, zf_z, zf_z] at L
        exact L
      refine br_f (by decide) (x_append rfl (by omega) ⟨9, L _ (x_153 (n := 6) (by decide) rfl z1 rfl (H 0 _ (nI t, 0, nI (h - 6), nI n, nI a + 1, 0, -1, nI (s + 1), nI c, nI (1 + 8), 0, 1, 0, tk, tv, dg, sk, sv, vk, vv, hw, fr, og, lf, st, la, fm, fc, gr, wi, upd mn 0 (nI (p + 1 + 9)), zf qx (p + 1) (p + 1 + 9) (fun i => (zf (upd nx 0 ((px (Zft ss p)).toInt64).toInt32) 1 (1 + 8) (zcg 1 (px (Zcu ss cl p)).toInt64 (ZDX mA mB oX (sv (h - 1 - (4 + 1))).toInt64 (sv (h - 1 - 4)).toInt64) (ZDX mA mB oX (sv (h - 1 - (2 + 1))).toInt64 (sv (h - 1 - 2)).toInt64) (ZDX mA mB oX (sv (h - 1 - (0 + 1))).toInt64 (sv (h - 1 - 0)).toInt64))) (i - (p + 1))), zf qy (p + 1) (p + 1 + 9) (fun i => (zf (upd ny 0 ((py (Zft ss p)).toInt64).toInt32) 1 (1 + 8) (zcg 1 (py (Zcu ss cl p)).toInt64 (ZDX mA mB oY (sv (h - 1 - 4)).toInt64 (-(sv (h - 1 - (4 + 1))).toInt64)) (ZDX mA mB oY (sv (h - 1 - 2)).toInt64 (-(sv (h - 1 - (2 + 1))).toInt64)) (ZDX mA mB oY (sv (h - 1 - 0)).toInt64 (-(sv (h - 1 - (0 + 1))).toInt64)))) (i - (p + 1))), zf ss (p + 1) (p + 1 + 9) (fun i => if (1 : Int32) ≠ 0 ∧ i = p + 1 then 1 else 0), zf cl (p + 1) (p + 1 + 9) (fun _ => 0), cp, zf (upd nx 0 ((px (Zft ss p)).toInt64).toInt32) 1 (1 + 8) (zcg 1 (px (Zcu ss cl p)).toInt64 (ZDX mA mB oX (sv (h - 1 - (4 + 1))).toInt64 (sv (h - 1 - 4)).toInt64) (ZDX mA mB oX (sv (h - 1 - (2 + 1))).toInt64 (sv (h - 1 - 2)).toInt64) (ZDX mA mB oX (sv (h - 1 - (0 + 1))).toInt64 (sv (h - 1 - 0)).toInt64)), zf (upd ny 0 ((py (Zft ss p)).toInt64).toInt32) 1 (1 + 8) (zcg 1 (py (Zcu ss cl p)).toInt64 (ZDX mA mB oY (sv (h - 1 - 4)).toInt64 (-(sv (h - 1 - (4 + 1))).toInt64)) (ZDX mA mB oY (sv (h - 1 - 2)).toInt64 (-(sv (h - 1 - (2 + 1))).toInt64)) (ZDX mA mB oY (sv (h - 1 - 0)).toInt64 (-(sv (h - 1 - (0 + 1))).toInt64)))) (zs_ok ⟨hT, zst_le hS (by omega), hV, hF, hpn, zgs_path (q := p + 1 + 9) hG (zpt_extB hP (by omega) (by omega) (fun k hk => ⟨by rw [zf_lo (by omega), pk_un (by omega)], by rw [zf_lo (by omega), pk_un (by omega)], by rw [zf_lo (by omega), pk_un (by omega)], zf_lo hk, zf_lo hk, zf_lo hk, zf_lo hk⟩) (fun k h1 h2 => ?_) ?_ ?_ (fun k h1 h2 => ?_)), zsv_up hSV zr_i zr_i zr_i zr_i zr_u (fun i hi => zf_hi (by omega)) (fun i hi => zf_hi (by omega)) (fun i hi => zf_hi (by omega)) (fun i hi => zf_hi (by omega)) zr_i⟩ rfl (nI_1 a) rfl rfl rfl rfl rfl rfl) (fun PY hp => ?_)))⟩)
      · rw [zf_in (a := qx) (by omega) (by omega), zf_in (a := qy) (by omega) (by omega), zf_in (a := cl) (by omega) (by omega)]
        by_cases ek : k = p + 1
        · subst ek
          rw [Nat.sub_self, zf_lo (by omega), zf_lo (by omega), zf_lo (by omega), zf_lo (by omega), pk_us, pk_us, pk_us, pk_us, hcz, Int32.toInt32_toInt64, Int32.toInt32_toInt64]
          exact ⟨rfl, rfl, rfl, f6, f7⟩
        · have e1 : zcg 1 (px (Zcu ss cl p)).toInt64 (ZDX mA mB oX (sv (h - 1 - (4 + 1))).toInt64 (sv (h - 1 - 4)).toInt64) (ZDX mA mB oX (sv (h - 1 - (2 + 1))).toInt64 (sv (h - 1 - 2)).toInt64) (ZDX mA mB oX (sv (h - 1 - (0 + 1))).toInt64 (sv (h - 1 - 0)).toInt64) (k - (p + 1)) = zcg (p + 1 + 1) (px (Zcu ss cl p)).toInt64 (ZDX mA mB oX (sv (h - 1 - (4 + 1))).toInt64 (sv (h - 1 - 4)).toInt64) (ZDX mA mB oX (sv (h - 1 - (2 + 1))).toInt64 (sv (h - 1 - 2)).toInt64) (ZDX mA mB oX (sv (h - 1 - (0 + 1))).toInt64 (sv (h - 1 - 0)).toInt64) k := by
            unfold zcg
            rw [show k - (p + 1) - 1 + 1 = k - (p + 1 + 1) + 1 by omega]
          have e2 : zcg 1 (py (Zcu ss cl p)).toInt64 (ZDX mA mB oY (sv (h - 1 - 4)).toInt64 (-(sv (h - 1 - (4 + 1))).toInt64)) (ZDX mA mB oY (sv (h - 1 - 2)).toInt64 (-(sv (h - 1 - (2 + 1))).toInt64)) (ZDX mA mB oY (sv (h - 1 - 0)).toInt64 (-(sv (h - 1 - (0 + 1))).toInt64)) (k - (p + 1)) = zcg (p + 1 + 1) (py (Zcu ss cl p)).toInt64 (ZDX mA mB oY (sv (h - 1 - 4)).toInt64 (-(sv (h - 1 - (4 + 1))).toInt64)) (ZDX mA mB oY (sv (h - 1 - 2)).toInt64 (-(sv (h - 1 - (2 + 1))).toInt64)) (ZDX mA mB oY (sv (h - 1 - 0)).toInt64 (-(sv (h - 1 - (0 + 1))).toInt64)) k := by
            unfold zcg
            rw [show k - (p + 1) - 1 + 1 = k - (p + 1 + 1) + 1 by omega]
          rw [zf_in (by omega) (by omega), zf_in (by omega) (by omega), zf_in (by omega) (by omega), zf_in (by omega) (by omega), e1, e2]
          have hb := zof_0 (zof_s6 (zcv_b (j := k - (p + 1 + 1) + 1) (by omega) (zs6_32 d6) za.1 zb.1 zc.1) (zcv_b (j := k - (p + 1 + 1) + 1) (by omega) (zs6_32 d7) za.2 zb.2 zc.2))
          exact ⟨rfl, rfl, rfl, hb.1, hb.2⟩
      · rw [zf_in (by omega) (by omega), if_pos ⟨by decide, rfl⟩]
      · rw [zf_lo (by omega), pk_us]
      · rw [zf_in (by omega) (by omega), zf_in (by omega) (by omega), if_neg (fun z => by omega)]
        exact ⟨rfl, rfl⟩
      · refine ⟨hi, nm_r ev ⟨hi, nm_r ek (br_f (by decide) (br_f (by decide) (br_f (by decide) (br_t rfl ?_))))⟩⟩
        unfold wY_execute_245 wpY_operate
        refine y_check (by decide) hh hp48 (zst_k hS) rfl hmn (fun z => absurd hE z) (fun _ z => absurd z (by decide)) (fun _ _ _ => hYp _ (fun z => absurd ⟨q1, q2, q3⟩ z) (fun _ _ _ => y_ckP (g := 0) (q := 9) rfl hh z1 hmn hp48 rfl (by omega) rfl (by omega) (by decide) (by decide) (by decide) (by decide) (by decide) (by decide) (by decide) (by decide) (by decide) (by decide) (by decide) (by decide) (by decide) (fun z => by omega) (fun _ z => absurd rfl z) (fun _ _ => br_t rfl ?_)))
        refine br_t (by decide) (br_t (by decide) (br_t (by decide) (br_t (by decide) (?_))))
        unfold wY_operate_71
        exact y_path (m := p + 1) (q := 9) (n := 6) (g := 0) (by decide) (by decide) rfl z1 rfl (by omega) (by omega) (Or.inr rfl) (by decide) rfl rfl hmn (by omega) (by omega) hp48 (fun z => absurd z (by decide)) (fun _ => br_f (by decide) (nm_e hp))
    · by_cases q : zof (ZDX mA mB oX (sv (h - 1 - (4 + 1))).toInt64 (sv (h - 1 - 4)).toInt64) (ZDX mA mB oY (sv (h - 1 - 4)).toInt64 (-(sv (h - 1 - (4 + 1))).toInt64)) = 0 ∧ zof (ZDX mA mB oX (sv (h - 1 - (2 + 1))).toInt64 (sv (h - 1 - 2)).toInt64) (ZDX mA mB oY (sv (h - 1 - 2)).toInt64 (-(sv (h - 1 - (2 + 1))).toInt64)) = 0 ∧ zof (ZDX mA mB oX (sv (h - 1 - (0 + 1))).toInt64 (sv (h - 1 - 0)).toInt64) (ZDX mA mB oY (sv (h - 1 - 0)).toInt64 (-(sv (h - 1 - (0 + 1))).toInt64)) = 0
      · exact x_153e (by decide) (H 7 _ (nI t, 0, nI h, nI n, nI a, 7, -1, nI (s + 1), nI c, nI (1 + 8), 0, 1, 0, tk, tv, dg, sk, sv, vk, vv, hw, fr, og, lf, st, la, fm, fc, gr, wi, mn, qx, qy, ss, cl, cp, zf (upd nx 0 ((px (Zft ss p)).toInt64).toInt32) 1 (1 + 8) (zcg 1 (px (Zcu ss cl p)).toInt64 (ZDX mA mB oX (sv (h - 1 - (4 + 1))).toInt64 (sv (h - 1 - 4)).toInt64) (ZDX mA mB oX (sv (h - 1 - (2 + 1))).toInt64 (sv (h - 1 - 2)).toInt64) (ZDX mA mB oX (sv (h - 1 - (0 + 1))).toInt64 (sv (h - 1 - 0)).toInt64)), zf (upd ny 0 ((py (Zft ss p)).toInt64).toInt32) 1 (1 + 8) (zcg 1 (py (Zcu ss cl p)).toInt64 (ZDX mA mB oY (sv (h - 1 - 4)).toInt64 (-(sv (h - 1 - (4 + 1))).toInt64)) (ZDX mA mB oY (sv (h - 1 - 2)).toInt64 (-(sv (h - 1 - (2 + 1))).toInt64)) (ZDX mA mB oY (sv (h - 1 - 0)).toInt64 (-(sv (h - 1 - (0 + 1))).toInt64)))) (zs_er hR' (by decide)) (fun PY hp => hY7 PY h48 (fun z => absurd q z) (fun _ => hp)))
      · exact x_153e (by decide) (H 7 _ (nI t, 0, nI h, nI n, nI a, 7, -1, nI (s + 1), nI c, nI (0 + 1), 0, 1, 1, tk, tv, dg, sk, sv, vk, vv, hw, fr, og, lf, st, la, fm, fc, gr, wi, mn, qx, qy, ss, cl, cp, (upd nx 0 ((px (Zft ss p)).toInt64).toInt32), (upd ny 0 ((py (Zft ss p)).toInt64).toInt32)) (zs_er hR' (by decide)) (fun PY hp => hY7 PY h48 (fun _ => hp) (fun z => absurd z q)))
end
