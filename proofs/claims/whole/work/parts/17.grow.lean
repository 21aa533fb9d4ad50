section
variable {tc ob ps su ep sd bc mA mB oX oY gY wD pC sC yt yo yh yi ya ye yp ys yc nw gn bg wd : Int32} {tk tv cb sk sv vk vv bp br bh bn bs bl px py pm cr sn sx sy sm sp dg hw fr og lf st la fm fc gr wi mn qx qy ss cl cp nx ny : Nat → Int32}
theorem z64_sub {p q : Int32} (hp : Zsm p) (hq : Zsm q) : (p - q).toInt64 = p.toInt64 - q.toInt64 := by
  obtain ⟨p1, p2⟩ := hp
  obtain ⟨q1, q2⟩ := hq
  apply Int64.toInt_inj.mp
  rw [z64_i, Int64.toInt_sub, z64_i, z64_i, Int32.toInt_sub]
  rw [Int.bmod_eq_of_le (by omega) (by omega), Int.bmod_eq_of_le (by omega) (by omega)]
theorem zu_u {f : Nat → Int32} {k : Nat} {x y : Int32} : upd (upd f k x) k y = upd f k y := by
  funext i
  unfold upd
  by_cases e : i = k
  · rw [if_pos e, if_pos e]
  · rw [if_neg e, if_neg e, if_neg e]
theorem x_append {post : SX → Prop} {x y : Int64} {mk : Int32} {q : Nat} (hc : pC = nI q) (hq : q < 48) (k : post (tc, ob, ps, su, ep, sd, bc, mA, mB, oX, oY, gY, wD, nI (q + 1), sC, tk, tv, cb, sk, sv, vk, vv, bp, br, bh, bn, bs, bl, upd px q x.toInt32, upd py q y.toInt32, upd pm q mk, cr, sn, sx, sy, sm, sp, dg)) : wpX_append post (tc, ob, ps, su, ep, sd, bc, mA, mB, oX, oY, gY, wD, pC, sC, tk, tv, cb, sk, sv, vk, vv, bp, br, bh, bn, bs, bl, px, py, pm, cr, sn, sx, sy, sm, sp, dg) x y mk := by
  subst hc
  have e : (nI q).toNatClampNeg = q := zc_i (by omega)
  have hi : vp_in (nI q) 48 := vp_in_nI hq (by omega)
  exact qs_t q 48 hq ⟨hi, nm_r (congrArg (fun z => upd px z x.toInt32) e) ⟨hi, nm_r (congrArg (fun z => upd py z y.toInt32) e) ⟨hi, nm_r (congrArg (fun z => upd pm z mk) e) (nm_r (nI_1 q) k)⟩⟩⟩
theorem y_329n {post : SY → Prop} {op x3 : Int32} {h q : Nat} {Fk : Int32} (h33 : op ≠ 33) (hg : ZGR mA mB oX oY fm Fk) (hs : yh = nI h) (hh : h ≤ 24) (h2 : 2 ≤ h) (hq : nw = nI q) (h9 : q < 9) (hwd : wd = 0 ∨ wd = 1) (k : post (yt, yo, yh, yi, ya, ye, yp, ys, yc, nI (q + 1), gn, bg, wd ||| zof (ZDX mA mB oX (sv (h - 1 - 1)).toInt64 (sv (h - 1 - 0)).toInt64) (ZDX mA mB oY (sv (h - 1 - 0)).toInt64 (-(sv (h - 1 - 1)).toInt64)), tk, tv, dg, sk, sv, vk, vv, hw, fr, og, lf, st, la, fm, fc, gr, wi, mn, qx, qy, ss, cl, cp, upd nx q (ZDX mA mB oX (sv (h - 1 - 1)).toInt64 (sv (h - 1 - 0)).toInt64).toInt32, upd ny q (ZDX mA mB oY (sv (h - 1 - 0)).toInt64 (-(sv (h - 1 - 1)).toInt64)).toInt32)) : wY_planAll_329 post op x3 0 yt yo yh yi ya ye yp ys yc nw gn bg wd tk tv dg sk sv vk vv hw fr og lf st la fm fc gr wi mn qx qy ss cl cp nx ny :=
  br_f h33 (y_top (j := 1) hs rfl hh (by omega) (y_top (j := 0) hs rfl hh (by omega) (y_deviceX hg (y_top (j := 1) hs rfl hh (by omega) (y_top (j := 0) hs rfl hh (by omega) (y_deviceY hg (br_t rfl (y_plan hq h9 hwd k))))))))
theorem y_329b {post : SY → Prop} {op x3 : Int32} {h q j : Nat} {Fk : Int32} (h33 : op ≠ 33) (hg : ZGR mA mB oX oY fm Fk) (hs : yh = nI h) (hh : h ≤ 24) (h2 : 2 ≤ h) (hq : nw = nI q) (h9 : q < 9) (hwd : wd = 0 ∨ wd = 1) (hx : x3 = nI j) (hj : j < 240) (ex : qx j = px j) (ey : qy j = py j) (sxj : Zsm (px j)) (syj : Zsm (py j))
    (k : post (yt, yo, yh, yi, ya, ye, yp, ys, yc, nI (q + 1), gn, bg, wd ||| zof (ZDX mA mB oX (sv (h - 1 - 1)).toInt64 (sv (h - 1 - 0)).toInt64 + (px j - oX).toInt64) (ZDX mA mB oY (sv (h - 1 - 0)).toInt64 (-(sv (h - 1 - 1)).toInt64) + (py j - oY).toInt64), tk, tv, dg, sk, sv, vk, vv, hw, fr, og, lf, st, la, fm, fc, gr, wi, mn, qx, qy, ss, cl, cp, upd nx q (ZDX mA mB oX (sv (h - 1 - 1)).toInt64 (sv (h - 1 - 0)).toInt64 + (px j - oX).toInt64).toInt32, upd ny q (ZDX mA mB oY (sv (h - 1 - 0)).toInt64 (-(sv (h - 1 - 1)).toInt64) + (py j - oY).toInt64).toInt32)) : wY_planAll_329 post op x3 1 yt yo yh yi ya ye yp ys yc nw gn bg wd tk tv dg sk sv vk vv hw fr og lf st la fm fc gr wi mn qx qy ss cl cp nx ny := by
  have hi : vp_in (nI j) 240 := vp_in_nI hj (by omega)
  subst hx
  refine br_f h33 (y_top (j := 1) hs rfl hh (by omega) (y_top (j := 0) hs rfl hh (by omega) (y_deviceX hg (y_top (j := 1) hs rfl hh (by omega) (y_top (j := 0) hs rfl hh (by omega) (y_deviceY hg (br_f (by decide) ⟨hi, hi, ?_⟩)))))))
  rw [zc_i (by omega), ex, ey, hg.2.2.1, hg.2.2.2.2.2.1]
  have e1 : (ZDX mA mB oX (sv (h - 1 - 1)).toInt64 (sv (h - 1 - 0)).toInt64 + (px j).toInt64) - oX.toInt64 = ZDX mA mB oX (sv (h - 1 - 1)).toInt64 (sv (h - 1 - 0)).toInt64 + (px j - oX).toInt64 := by
    rw [z64_sub sxj hg.2.2.2.2.2.2.1]; grind
  have e2 : (ZDX mA mB oY (sv (h - 1 - 0)).toInt64 (-(sv (h - 1 - 1)).toInt64) + (py j).toInt64) - oY.toInt64 = ZDX mA mB oY (sv (h - 1 - 0)).toInt64 (-(sv (h - 1 - 1)).toInt64) + (py j - oY).toInt64 := by
    rw [z64_sub syj hg.2.2.2.2.2.2.2.1]; grind
  rw [e1, e2]
  exact y_plan hq h9 hwd k
theorem y_pl134 {post : SY → Prop} {op : Int32} {p : Nat} (h29 : ¬ op < 29) (h33 : op ≤ 33) (h0 : ss 0 ≠ 0) (hm : mn 0 = nI (p + 1)) (hp : p < 48) (k : wY_planAll_195 post op (nI (Zft ss p)) (nI (Zcu ss cl p)) yt yo yh yi ya ye yp ys yc nw gn bg wd tk tv dg sk sv vk vv hw fr og lf st la fm fc gr wi mn qx qy ss cl cp nx ny) : wY_planAll_134 post op yt yo yh yi ya ye yp ys yc nw gn bg wd tk tv dg sk sv vk vv hw fr og lf st la fm fc gr wi mn qx qy ss cl cp nx ny := by
  have hl := zft_le ss p
  refine br_f h29 (br_t h33 (br_f (by rw [hm]; exact nI_ge (a := 0) (by omega) (by omega)) (y_fol h0 hm (by omega) (br_f (by rw [hm]; exact nI_ne0 (by omega) (by omega)) ⟨vp_in_nI (by omega) (by omega), ?_⟩))))
  rw [zc_i (by omega)]
  unfold Zcu at k
  refine br_c (fun q => ?_) (fun q => ?_)
  · rw [if_pos q] at k
    rw [hm, nI_pred]
    exact k
  · rw [if_neg q] at k
    exact k
theorem y_ckP {post : Int32 → SY → Prop} {op : Int32} {h pc g q n : Nat} (hs : yh = nI h) (hh : h ≤ 24) (hn : n ≤ h) (hm : mn 0 = nI pc) (hp : pc ≤ 48) (hgn : gn = nI g) (hg : g ≤ pc) (hnw : nw = nI q) (hq : q ≤ 9) (h23 : op ≠ 23) (h21 : op ≠ 21) (h24 : op ≠ 24) (h26 : op ≠ 26) (h27 : op ≠ 27) (h11 : op ≠ 11) (h18 : op ≠ 18) (h20 : op ≠ 20)
    (h14 : op ≠ 14) (h16 : op ≠ 16) (h19 : op ≠ 19) (h15 : op ≠ 15) (h17 : op ≠ 17)
    (k7 : 48 < pc - g + q → post 7 (yt, yo, yh, yi, ya, ye, yp, ys, yc, nw, gn, bg, wd, tk, tv, dg, sk, sv, vk, vv, hw, fr, og, lf, st, la, fm, fc, gr, wi, mn, qx, qy, ss, cl, cp, nx, ny)) (k5 : pc - g + q ≤ 48 → wd ≠ 0 → post 5 (yt, yo, yh, yi, ya, ye, yp, ys, yc, nw, gn, bg, wd, tk, tv, dg, sk, sv, vk, vv, hw, fr, og, lf, st, la, fm, fc, gr, wi, mn, qx, qy, ss, cl, cp, nx, ny)) (k0 : pc - g + q ≤ 48 → wd = 0 → post 0 (yt, yo, yh, yi, ya, ye, yp, ys, yc, nw, gn, bg, wd, tk, tv, dg, sk, sv, vk, vv, hw, fr, og, lf, st, la, fm, fc, gr, wi, mn, qx, qy, ss, cl, cp, nx, ny)) : wY_check_129 post op (nI n) yt yo yh yi ya ye yp ys yc nw gn bg wd tk tv dg sk sv vk vv hw fr og lf st la fm fc gr wi mn qx qy ss cl cp nx ny := by
  refine br_f h23 ?_
  rw [hm, hgn, hnw, pk_sub hg, nI_add]
  subst hgn hnw
  refine pk_lt 48 (pc - g + q) (fun q1 => k7 q1) (fun q1 => br_f h21 ?_)
  have go : ∀ x, wY_check_192 post op x yt yo yh yi ya ye yp ys yc (nI q) (nI g) bg wd tk tv dg sk sv vk vv hw fr og lf st la fm fc gr wi mn qx qy ss cl cp nx ny := fun x => br_f h24 (br_f h26 (br_f h27 (br_f h11 (br_f h18 (br_f h24 (br_c (fun e => br_f h20 (y_ck335n h14 h16 h19 h15 h17 h18 (k0 q1 e))) (fun e => k5 q1 e)))))))
  exact pk_le n 0 (fun _ => go 0) (fun h1 => y_top (j := 0) hs rfl hh (by omega) (go _))
theorem y_path_l {post : SY → Prop} {op m q n h : Nat} (hop : op < 45) (hn : ztk op = n) (hnh : n ≤ h) (hs : yh = nI h) (hq : q ≤ 9) (hmq : m + q ≤ 48) (hb : bg = 0 ∨ bg = 1) (h34 : op ≠ 34) (K44 : op = 44 → wY_path_138 post (nI op) yt yo (nI (h - n)) yi ya ye yp ys yc (nI q) gn bg wd tk tv dg sk sv vk vv hw fr og lf st la fm fc gr wi (upd mn 0 (nI (m + q))) (zf qx m (m + q) (fun i => nx (i - m))) (zf qy m (m + q) (fun i => ny (i - m))) (zf ss m (m + q) (fun i => if bg ≠ 0 ∧ i = m then 1 else 0)) (zf cl m (m + q) (fun _ => 0)) cp nx ny) (K : op ≠ 44 → wY_path_150 post (nI op) yt yo (nI (h - n)) yi ya ye yp ys yc (nI q) gn bg wd tk tv dg sk sv vk vv hw fr og lf st la fm fc gr wi (upd mn 0 (nI (m + q))) (zf qx m (m + q) (fun i => nx (i - m))) (zf qy m (m + q) (fun i => ny (i - m))) (zf ss m (m + q) (fun i => if bg ≠ 0 ∧ i = m then 1 else 0)) (zf cl m (m + q) (fun _ => 0)) cp nx ny) :
    ∀ d k, k + d = q → wY_path_29 post (nI op) yt yo yh yi ya ye yp ys yc (nI q) gn bg wd (d + 1) (nI k) tk tv dg sk sv vk vv hw fr og lf st la fm fc gr wi (upd mn 0 (nI (m + k))) (zf qx m (m + k) (fun i => nx (i - m))) (zf qy m (m + k) (fun i => ny (i - m))) (zf ss m (m + k) (fun i => if bg ≠ 0 ∧ i = m then 1 else 0)) (zf cl m (m + k) (fun _ => 0)) cp nx ny := by
  intro d
  subst hs
  induction d with
  | zero =>
    intro k hk
    have : k = q := by omega
    subst this
    refine ql_t k k (by omega) (y_takes hop ?_)
    rw [hn]
    exact nm_r (pk_sub hnh) (pk_eq op 34 (fun e => absurd e h34) (fun _ => pk_eq op 44 (fun e => K44 e) (fun e => K e)))
  | succ d ih =>
    intro k hk
    have i9 : vp_in (nI k) 9 := vp_in_nI (by omega) (by omega)
    have im : vp_in (nI (m + k)) 240 := vp_in_nI (by omega) (by omega)
    have ek : (nI k).toNatClampNeg = k := zc_i (by omega)
    have em : (nI (m + k)).toNatClampNeg = m + k := zc_i (by omega)
    have stp : ∀ f g : Nat → Int32, upd (zf f m (m + k) g) (m + k) (g (m + k)) = zf f m (m + (k + 1)) g := fun f g => by
      rw [show m + (k + 1) = m + k + 1 by omega]
      exact zf_e (by omega)
    have e5 : ∀ g : Nat → Int32, g (m + k - m) = g k := fun g => congrArg g (by omega)
    have go : ∀ z : Int32, z = (if bg ≠ 0 ∧ m + k = m then 1 else 0) → wY_path_89 post (wY_path_29 post (nI op) yt yo (nI h) yi ya ye yp ys yc (nI q) gn bg wd (d + 1)) (nI op) (nI k) (nI (m + k)) z (nI (m + k)) yt yo (nI h) yi ya ye yp ys yc (nI q) gn bg wd tk tv dg sk sv vk vv hw fr og lf st la fm fc gr wi (upd mn 0 (nI (m + k))) (zf qx m (m + (k + 1)) (fun i => nx (i - m))) (zf qy m (m + (k + 1)) (fun i => ny (i - m))) (zf ss m (m + k) (fun i => if bg ≠ 0 ∧ i = m then 1 else 0)) (zf cl m (m + k) (fun _ => 0)) cp nx ny := by
      intro z hz
      have hzn : vp_nar .boolean z = z := zb_b (by rw [hz]; split <;> simp)
      refine ⟨im, nm_r ?_ ⟨im, nm_r ?_ (nm_r ?_ (nm_r (nI_1 k) (ih (k + 1) (by omega))))⟩⟩
      · rw [em, hzn, hz]
        exact stp ss (fun i => if bg ≠ 0 ∧ i = m then 1 else 0)
      · rw [em, zb_0]
        exact stp cl (fun _ => 0)
      · rw [pk_us, zu_u, nI_1]
        rfl
    refine ql_f q k (by omega) (nm_r pk_us ⟨i9, im, nm_r (show _ = zf qx m (m + (k + 1)) (fun i => nx (i - m)) by rw [em, ek, ← stp, e5 nx]) ⟨i9, im, nm_r (show _ = zf qy m (m + (k + 1)) (fun i => ny (i - m)) by rw [em, ek, ← stp, e5 ny]) ?_⟩⟩)
    refine br_c (fun b0 => go 0 ?_) (fun b0 => pk_eq k 0 (fun k0 => go 1 ?_) (fun k0 => go 0 ?_))
    · rw [if_neg (fun z => z.1 b0)]
    · rw [if_pos ⟨b0, by omega⟩]
    · rw [if_neg (fun z => k0 (by omega))]
theorem y_path {post : SY → Prop} {op m q n h g pc : Nat} (hop : op < 45) (h28 : op ≠ 28) (hn : ztk op = n) (hnh : n ≤ h) (hs : yh = nI h) (hq : q ≤ 9) (hmq : m + q ≤ 48) (hb : bg = 0 ∨ bg = 1) (h34 : op ≠ 34) (hnw : nw = nI q) (hgn : gn = nI g) (hm : mn 0 = nI pc) (hgp : g ≤ pc) (hmm : m = pc - g) (hp : pc ≤ 48) (K44 : op = 44 → wY_path_138 post (nI op) yt yo (nI (h - n)) yi ya ye yp ys yc (nI q) gn bg wd tk tv dg sk sv vk vv hw fr og lf st la fm fc gr wi (upd mn 0 (nI (m + q))) (zf qx m (m + q) (fun i => nx (i - m))) (zf qy m (m + q) (fun i => ny (i - m))) (zf ss m (m + q) (fun i => if bg ≠ 0 ∧ i = m then 1 else 0)) (zf cl m (m + q) (fun _ => 0)) cp nx ny) (K : op ≠ 44 → wY_path_150 post (nI op) yt yo (nI (h - n)) yi ya ye yp ys yc (nI q) gn bg wd tk tv dg sk sv vk vv hw fr og lf st la fm fc gr wi (upd mn 0 (nI (m + q))) (zf qx m (m + q) (fun i => nx (i - m))) (zf qy m (m + q) (fun i => ny (i - m))) (zf ss m (m + q) (fun i => if bg ≠ 0 ∧ i = m then 1 else 0)) (zf cl m (m + q) (fun _ => 0)) cp nx ny) : wpY_path post (yt, yo, yh, yi, ya, ye, yp, ys, yc, nw, gn, bg, wd, tk, tv, dg, sk, sv, vk, vv, hw, fr, og, lf, st, la, fm, fc, gr, wi, mn, qx, qy, ss, cl, cp, nx, ny) (nI op) := by
  subst hnw
  have L := y_path_l (gn := gn) hop hn hnh hs hq hmq hb h34 K44 K q 0 (by omega)
  rw [Nat.add_zero m, zf_z, zf_z, zf_z, zf_z] at L
  refine qe_f op 28 h28 (nm_r (show _ = upd mn 0 (nI m) by rw [hm, hgn, pk_sub hgp, hmm]) ⟨q + 1, L⟩)
/-! the path grows -/
theorem zpt_cut {m pc : Nat} (hP : ZPT pc px py pm qx qy ss cl) (h : m ≤ pc) : ZPT m px py pm qx qy ss cl := ⟨by have := hP.1; omega, fun h0 => hP.2.1 (by omega), fun k hk => hP.2.2 k (by omega)⟩
variable {px' py' pm' qx' qy' ss' cl' : Nat → Int32}
theorem zft_beg {m : Nat} (h1 : ss m ≠ 0) : ∀ k, m ≤ k → (∀ j, m < j → j ≤ k → ss j = 0) → Zft ss k = m := by
  intro k
  induction k with
  | zero => intro h _; rw [show m = 0 by omega]; rfl
  | succ k ih =>
    intro h hz
    by_cases e : m = k + 1
    · rw [← e]; exact zft_s h1
    · rw [zft_0 (hz _ (by omega) (by omega))]
      exact ih (by omega) (fun j h2 h3 => hz j h2 (by omega))
theorem zft_non {m : Nat} : ∀ k, m ≤ k → (∀ j, m < j → j ≤ k → ss j = 0) → Zft ss k = Zft ss m := by
  intro k
  induction k with
  | zero => intro h _; rw [show m = 0 by omega]
  | succ k ih =>
    intro h hz
    by_cases e : m = k + 1
    · rw [e]
    · rw [zft_0 (hz _ (by omega) (by omega))]
      exact ih (by omega) (fun j h2 h3 => hz j h2 (by omega))
theorem zpt_ext {m q : Nat} (hP : ZPT m px py pm qx qy ss cl) (hmq : m + q ≤ 48) (h0 : 0 < m + q → ss' 0 ≠ 0)
    (el : ∀ k, k < m → px' k = px k ∧ py' k = py k ∧ pm' k = pm k ∧ qx' k = qx k ∧ qy' k = qy k ∧ ss' k = ss k ∧ cl' k = cl k)
    (en : ∀ k, m ≤ k → k < m + q → qx' k = px' k ∧ qy' k = py' k ∧ Zb2 (ss' k) ∧ cl' k = 0 ∧ pm' k = Zmk (ss' k) (cl' (Zft ss' k)) ∧ Zsm (px' k) ∧ Zsm (py' k)) : ZPT (m + q) px' py' pm' qx' qy' ss' cl' := by
  refine ⟨hmq, h0, fun k hk => ?_⟩
  by_cases e : k < m
  · obtain ⟨l1, l2, l3, l4, l5, l6, l7⟩ := el k e
    obtain ⟨a1, a2, a3, a4, a5, a6, a7⟩ := hP.2.2 k e
    have hl := zft_le ss k
    rw [l1, l2, l3, l4, l5, l6, l7, zft_c (fun j hj => (el j (by omega)).2.2.2.2.2.1), (el (Zft ss k) (by omega)).2.2.2.2.2.2]
    exact ⟨a1, a2, a3, a4, a5, a6, a7⟩
  · obtain ⟨a1, a2, a3, a4, a5, a6, a7⟩ := en k (by omega) hk
    exact ⟨a1, a2, a3, Or.inl a4, a5, a6, a7⟩
/-- new points that begin a subpath -/
theorem zpt_extB {m q : Nat} (hP : ZPT m px py pm qx qy ss cl) (hq : 1 ≤ q) (hmq : m + q ≤ 48)
    (el : ∀ k, k < m → px' k = px k ∧ py' k = py k ∧ pm' k = pm k ∧ qx' k = qx k ∧ qy' k = qy k ∧ ss' k = ss k ∧ cl' k = cl k)
    (en : ∀ k, m ≤ k → k < m + q → qx' k = px' k ∧ qy' k = py' k ∧ cl' k = 0 ∧ Zsm (px' k) ∧ Zsm (py' k))
    (es : ss' m = 1) (em : pm' m = 1) (ez : ∀ k, m < k → k < m + q → ss' k = 0 ∧ pm' k = 0) : ZPT (m + q) px' py' pm' qx' qy' ss' cl' := by
  have hs1 : ss' m ≠ 0 := by rw [es]; decide
  refine zpt_ext hP hmq (fun _ => ?_) el (fun k h1 h2 => ?_)
  · by_cases e : m = 0
    · rw [← e]; exact hs1
    · rw [(el 0 (by omega)).2.2.2.2.2.1]; exact hP.2.1 (by omega)
  · obtain ⟨a1, a2, a3, a4, a5⟩ := en k h1 h2
    have hf : Zft ss' k = m := zft_beg hs1 k h1 (fun j h3 h4 => (ez j h3 (by omega)).1)
    rw [hf, (en m (by omega) (by omega)).2.2.1]
    by_cases e : k = m
    · rw [e] at a1 a2 a3 a4 a5 ⊢
      exact ⟨a1, a2, Or.inr es, a3, by rw [em, es]; rfl, a4, a5⟩
    · obtain ⟨b1, b2⟩ := ez k (by omega) h2
      exact ⟨a1, a2, Or.inl b1, a3, by rw [b1, b2]; rfl, a4, a5⟩
/-- new points of the last subpath -/
theorem zpt_extN {p q : Nat} (hP : ZPT (p + 1) px py pm qx qy ss cl) (hc : cl (Zft ss p) = 0) (hmq : p + 1 + q ≤ 48)
    (el : ∀ k, k < p + 1 → px' k = px k ∧ py' k = py k ∧ pm' k = pm k ∧ qx' k = qx k ∧ qy' k = qy k ∧ ss' k = ss k ∧ cl' k = cl k)
    (en : ∀ k, p + 1 ≤ k → k < p + 1 + q → qx' k = px' k ∧ qy' k = py' k ∧ cl' k = 0 ∧ Zsm (px' k) ∧ Zsm (py' k))
    (ez : ∀ k, p + 1 ≤ k → k < p + 1 + q → ss' k = 0 ∧ pm' k = 0) : ZPT (p + 1 + q) px' py' pm' qx' qy' ss' cl' := by
  refine zpt_ext hP hmq (fun _ => ?_) el (fun k h1 h2 => ?_)
  · rw [(el 0 (by omega)).2.2.2.2.2.1]; exact hP.2.1 (by omega)
  · obtain ⟨a1, a2, a3, a4, a5⟩ := en k h1 h2
    obtain ⟨b1, b2⟩ := ez k h1 h2
    have hl := zft_le ss p
    have hf : Zft ss' k = Zft ss p := by
      rw [zft_non (m := p) k (by omega) (fun j h3 h4 => (ez j (by omega) (by omega)).1)]
      exact zft_c (fun j hj => (el j (by omega)).2.2.2.2.2.1)
    rw [hf, (el (Zft ss p) (by omega)).2.2.2.2.2.2, hc]
    exact ⟨a1, a2, Or.inl b1, a3, by rw [b1, b2]; rfl, a4, a5⟩
end
