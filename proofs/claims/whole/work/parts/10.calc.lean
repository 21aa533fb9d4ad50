section
variable {tc ob ps su ep sd bc mA mB oX oY gY wD pC sC yt yo yh yi ya ye yp ys yc nw gn bg wd : Int32} {tk tv cb sk sv vk vv bp br bh bn bs bl px py pm cr sn sx sy sm sp dg hw fr og lf st la fm fc gr wi mn qx qy ss cl cp nx ny : Nat → Int32}
theorem zg_mn {a b ox oy g w m : Int32} {f : Nat → Int32} {F G W M : Int32} {pc : Nat} (hG : ZGS a b ox oy g w m px py pm cr f F G W M qx qy ss cl cp) (e : m = nI pc) : M = nI pc := hG.2.2.2.1.trans e
theorem x_oe0 {post : Int32 → Prop} {op h pc : Nat} (hop : op < 45) (hh : h ≤ 24) (hp : pc ≤ 48) (hs : sd = nI h) (hc : pC = nI pc) (hE : ZE1 op h sk pc = 0) (k : post 0) : wpX_operandError post (tc, ob, ps, su, ep, sd, bc, mA, mB, oX, oY, gY, wD, pC, sC, tk, tv, cb, sk, sv, vk, vv, bp, br, bh, bn, bs, bl, px, py, pm, cr, sn, sx, sy, sm, sp, dg) (nI op) := by
  refine x_oe hop hh hp hs hc ?_
  rw [hE]
  exact k
theorem x_calc159 {post : Int32 → SX → Prop} {op h n : Nat} {x : Int32} (hop : op < 45) (hn : ztk op = n) (hz : n ≤ h) (hh : h - n < 24) (hs : sd = nI h) (k : post 0 (tc, ob, ps, su, ep, nI (h - n + 1), bc, mA, mB, oX, oY, gY, wD, pC, sC, tk, tv, cb, upd sk (h - n) 0, upd sv (h - n) x, vk, vv, bp, br, bh, bn, bs, bl, px, py, pm, cr, sn, sx, sy, sm, sp, dg)) : wX_calculate_159 post (nI op) x tc ob ps su ep sd bc mA mB oX oY gY wD pC sC tk tv cb sk sv vk vv bp br bh bn bs bl px py pm cr sn sx sy sm sp dg := by
  subst hs hn
  unfold wX_calculate_159
  exact x_takenBy hop (nm_r (pk_sub hz) (x_put rfl hh k))
theorem y_c311 {post : SY → Prop} {op : Int32} (h13 : op ≠ 13) (k : post (yt, yo, yh, yi, ya + 1, ye, yp, ys, yc, nw, gn, bg, wd, tk, tv, dg, sk, sv, vk, vv, hw, fr, og, lf, st, la, fm, fc, gr, wi, mn, qx, qy, ss, cl, cp, nx, ny)) : wY_compute_311 post op  yt yo yh yi ya ye yp ys yc nw gn bg wd tk tv dg sk sv vk vv hw fr og lf st la fm fc gr wi mn qx qy ss cl cp nx ny := br_f h13 (nm_e k)
theorem y_c296 {post : SY → Prop} {op : Int32} (h12 : op ≠ 12) (h13 : op ≠ 13) (k : post (yt, yo, yh, yi, ya + 1, ye, yp, ys, yc, nw, gn, bg, wd, tk, tv, dg, sk, sv, vk, vv, hw, fr, og, lf, st, la, fm, fc, gr, wi, mn, qx, qy, ss, cl, cp, nx, ny)) : wY_compute_296 post op  yt yo yh yi ya ye yp ys yc nw gn bg wd tk tv dg sk sv vk vv hw fr og lf st la fm fc gr wi mn qx qy ss cl cp nx ny := br_f h12 (y_c311 h13 k)
theorem y_c262 {post : SY → Prop} {op : Int32} {x3 : Int32} (h11 : op ≠ 11) (h12 : op ≠ 12) (h13 : op ≠ 13) (k : post (yt, yo, yh, yi, ya + 1, ye, yp, ys, yc, nw, gn, bg, wd, tk, tv, dg, sk, sv, vk, vv, hw, fr, og, lf, st, la, fm, fc, gr, wi, mn, qx, qy, ss, cl, cp, nx, ny)) : wY_compute_262 post op x3 yt yo yh yi ya ye yp ys yc nw gn bg wd tk tv dg sk sv vk vv hw fr og lf st la fm fc gr wi mn qx qy ss cl cp nx ny := br_f h11 (y_c296 h12 h13 k)
theorem y_c248 {post : SY → Prop} {op : Int32} {x3 x4 x6 : Int32} (h10 : op ≠ 10) (h11 : op ≠ 11) (h12 : op ≠ 12) (h13 : op ≠ 13) (k : post (yt, yo, yh, yi, ya + 1, ye, yp, ys, yc, nw, gn, bg, wd, tk, tv, dg, sk, sv, vk, vv, hw, fr, og, lf, st, la, fm, fc, gr, wi, mn, qx, qy, ss, cl, cp, nx, ny)) : wY_compute_248 post op x3 x4 x6 yt yo yh yi ya ye yp ys yc nw gn bg wd tk tv dg sk sv vk vv hw fr og lf st la fm fc gr wi mn qx qy ss cl cp nx ny := br_f h10 (y_c262 h11 h12 h13 k)
theorem y_c235 {post : SY → Prop} {op : Int32} {x3 x4 x5 x6 : Int32} (h9 : op ≠ 9) (h10 : op ≠ 10) (h11 : op ≠ 11) (h12 : op ≠ 12) (h13 : op ≠ 13) (k : post (yt, yo, yh, yi, ya + 1, ye, yp, ys, yc, nw, gn, bg, wd, tk, tv, dg, sk, sv, vk, vv, hw, fr, og, lf, st, la, fm, fc, gr, wi, mn, qx, qy, ss, cl, cp, nx, ny)) : wY_compute_235 post op x3 x4 x5 x6 yt yo yh yi ya ye yp ys yc nw gn bg wd tk tv dg sk sv vk vv hw fr og lf st la fm fc gr wi mn qx qy ss cl cp nx ny := br_f h9 (y_c248 h10 h11 h12 h13 k)
theorem y_c216 {post : SY → Prop} {op : Int32} {x3 x4 x5 x6 : Int32} (h9 : op ≠ 9) (h10 : op ≠ 10) (h11 : op ≠ 11) (h12 : op ≠ 12) (h13 : op ≠ 13) (k : post (yt, yo, yh, yi, ya + 1, ye, yp, ys, yc, nw, gn, bg, wd, tk, tv, dg, sk, sv, vk, vv, hw, fr, og, lf, st, la, fm, fc, gr, wi, mn, qx, qy, ss, cl, cp, nx, ny)) : wY_compute_216 post op x3 x4 x5 x6 yt yo yh yi ya ye yp ys yc nw gn bg wd tk tv dg sk sv vk vv hw fr og lf st la fm fc gr wi mn qx qy ss cl cp nx ny := br_f h9 (br_f h10 (y_c235 h9 h10 h11 h12 h13 k))
theorem y_c187 {post : SY → Prop} {op : Int32} {x3 x4 x5 x6 : Int32} (h7 : op ≠ 7) (h9 : op ≠ 9) (h10 : op ≠ 10) (h11 : op ≠ 11) (h12 : op ≠ 12) (h13 : op ≠ 13) (k : post (yt, yo, yh, yi, ya + 1, ye, yp, ys, yc, nw, gn, bg, wd, tk, tv, dg, sk, sv, vk, vv, hw, fr, og, lf, st, la, fm, fc, gr, wi, mn, qx, qy, ss, cl, cp, nx, ny)) : wY_compute_187 post op x3 x4 x5 x6 yt yo yh yi ya ye yp ys yc nw gn bg wd tk tv dg sk sv vk vv hw fr og lf st la fm fc gr wi mn qx qy ss cl cp nx ny := br_f h7 (y_c216 h9 h10 h11 h12 h13 k)
theorem y_c165 {post : SY → Prop} {op : Int32} {x3 x4 x5 x6 : Int32} (h6 : op ≠ 6) (h7 : op ≠ 7) (h9 : op ≠ 9) (h10 : op ≠ 10) (h11 : op ≠ 11) (h12 : op ≠ 12) (h13 : op ≠ 13) (k : post (yt, yo, yh, yi, ya + 1, ye, yp, ys, yc, nw, gn, bg, wd, tk, tv, dg, sk, sv, vk, vv, hw, fr, og, lf, st, la, fm, fc, gr, wi, mn, qx, qy, ss, cl, cp, nx, ny)) : wY_compute_165 post op x3 x4 x5 x6 yt yo yh yi ya ye yp ys yc nw gn bg wd tk tv dg sk sv vk vv hw fr og lf st la fm fc gr wi mn qx qy ss cl cp nx ny := br_f h6 (y_c187 h7 h9 h10 h11 h12 h13 k)
theorem y_c153 {post : SY → Prop} {op : Int32} {x3 x4 x5 x6 : Int32} (h5 : op ≠ 5) (h6 : op ≠ 6) (h7 : op ≠ 7) (h9 : op ≠ 9) (h10 : op ≠ 10) (h11 : op ≠ 11) (h12 : op ≠ 12) (h13 : op ≠ 13) (k : post (yt, yo, yh, yi, ya + 1, ye, yp, ys, yc, nw, gn, bg, wd, tk, tv, dg, sk, sv, vk, vv, hw, fr, og, lf, st, la, fm, fc, gr, wi, mn, qx, qy, ss, cl, cp, nx, ny)) : wY_compute_153 post op x3 x4 x5 x6 yt yo yh yi ya ye yp ys yc nw gn bg wd tk tv dg sk sv vk vv hw fr og lf st la fm fc gr wi mn qx qy ss cl cp nx ny := br_f h5 (y_c165 h6 h7 h9 h10 h11 h12 h13 k)
theorem y_c139 {post : SY → Prop} {op : Int32} {x3 x4 x5 x6 : Int32} (h4 : op ≠ 4) (h5 : op ≠ 5) (h6 : op ≠ 6) (h7 : op ≠ 7) (h9 : op ≠ 9) (h10 : op ≠ 10) (h11 : op ≠ 11) (h12 : op ≠ 12) (h13 : op ≠ 13) (k : post (yt, yo, yh, yi, ya + 1, ye, yp, ys, yc, nw, gn, bg, wd, tk, tv, dg, sk, sv, vk, vv, hw, fr, og, lf, st, la, fm, fc, gr, wi, mn, qx, qy, ss, cl, cp, nx, ny)) : wY_compute_139 post op x3 x4 x5 x6 yt yo yh yi ya ye yp ys yc nw gn bg wd tk tv dg sk sv vk vv hw fr og lf st la fm fc gr wi mn qx qy ss cl cp nx ny := br_f h4 (y_c153 h5 h6 h7 h9 h10 h11 h12 h13 k)
theorem y_c125 {post : SY → Prop} {op : Int32} {x3 x4 x5 x6 : Int32} (h3 : op ≠ 3) (h4 : op ≠ 4) (h5 : op ≠ 5) (h6 : op ≠ 6) (h7 : op ≠ 7) (h9 : op ≠ 9) (h10 : op ≠ 10) (h11 : op ≠ 11) (h12 : op ≠ 12) (h13 : op ≠ 13) (k : post (yt, yo, yh, yi, ya + 1, ye, yp, ys, yc, nw, gn, bg, wd, tk, tv, dg, sk, sv, vk, vv, hw, fr, og, lf, st, la, fm, fc, gr, wi, mn, qx, qy, ss, cl, cp, nx, ny)) : wY_compute_125 post op x3 x4 x5 x6 yt yo yh yi ya ye yp ys yc nw gn bg wd tk tv dg sk sv vk vv hw fr og lf st la fm fc gr wi mn qx qy ss cl cp nx ny := br_f h3 (y_c139 h4 h5 h6 h7 h9 h10 h11 h12 h13 k)
theorem y_c111 {post : SY → Prop} {op : Int32} {x3 x4 x5 x6 : Int32} (h2 : op ≠ 2) (h3 : op ≠ 3) (h4 : op ≠ 4) (h5 : op ≠ 5) (h6 : op ≠ 6) (h7 : op ≠ 7) (h9 : op ≠ 9) (h10 : op ≠ 10) (h11 : op ≠ 11) (h12 : op ≠ 12) (h13 : op ≠ 13) (k : post (yt, yo, yh, yi, ya + 1, ye, yp, ys, yc, nw, gn, bg, wd, tk, tv, dg, sk, sv, vk, vv, hw, fr, og, lf, st, la, fm, fc, gr, wi, mn, qx, qy, ss, cl, cp, nx, ny)) : wY_compute_111 post op x3 x4 x5 x6 yt yo yh yi ya ye yp ys yc nw gn bg wd tk tv dg sk sv vk vv hw fr og lf st la fm fc gr wi mn qx qy ss cl cp nx ny := br_f h2 (y_c125 h3 h4 h5 h6 h7 h9 h10 h11 h12 h13 k)
theorem y_c97 {post : SY → Prop} {op : Int32} {x3 x4 x5 x6 : Int32} (h1 : op ≠ 1) (h2 : op ≠ 2) (h3 : op ≠ 3) (h4 : op ≠ 4) (h5 : op ≠ 5) (h6 : op ≠ 6) (h7 : op ≠ 7) (h9 : op ≠ 9) (h10 : op ≠ 10) (h11 : op ≠ 11) (h12 : op ≠ 12) (h13 : op ≠ 13) (k : post (yt, yo, yh, yi, ya + 1, ye, yp, ys, yc, nw, gn, bg, wd, tk, tv, dg, sk, sv, vk, vv, hw, fr, og, lf, st, la, fm, fc, gr, wi, mn, qx, qy, ss, cl, cp, nx, ny)) : wY_compute_97 post op x3 x4 x5 x6 yt yo yh yi ya ye yp ys yc nw gn bg wd tk tv dg sk sv vk vv hw fr og lf st la fm fc gr wi mn qx qy ss cl cp nx ny := br_f h1 (y_c111 h2 h3 h4 h5 h6 h7 h9 h10 h11 h12 h13 k)
/-- two operands -/
theorem y_cmp2 {post : SY → Prop} {op h : Nat} (hop : op < 45) (hn : ztk op = 2) (hz : 2 ≤ h) (hh : h ≤ 24) (hs : yh = nI h)
    (k : wY_compute_72 post (nI op) 2 (sv (h - 1 - 0)) (sv (h - 1 - 1)) (if sk (h - 1 - 0) = 1 then 1 else 0) (if sk (h - 1 - 1) = 1 then 1 else 0) yt yo yh yi ya ye yp ys yc nw gn bg wd tk tv dg sk sv vk vv hw fr og lf st la fm fc gr wi mn qx qy ss cl cp nx ny) : wpY_compute post (yt, yo, yh, yi, ya, ye, yp, ys, yc, nw, gn, bg, wd, tk, tv, dg, sk, sv, vk, vv, hw, fr, og, lf, st, la, fm, fc, gr, wi, mn, qx, qy, ss, cl, cp, nx, ny) (nI op) := by
  unfold wpY_compute
  refine y_takes hop ?_
  rw [hn]
  refine br_f (by decide) (y_top (j := 0) hs rfl hh (by omega) (br_f (by decide) (y_top (j := 1) hs rfl hh (by omega) (br_f (by decide) (y_isProc (j := 0) hs rfl hh (by omega) ?_)))))
  have go : ∀ z : Int32, z = (if sk (h - 1 - 0) = 1 then 1 else 0) → wY_compute_52 post (nI op) 2 (sv (h - 1 - 0)) (sv (h - 1 - 1)) z yt yo yh yi ya ye yp ys yc nw gn bg wd tk tv dg sk sv vk vv hw fr og lf st la fm fc gr wi mn qx qy ss cl cp nx ny := by
    intro z hz'
    subst hz'
    refine br_f (by decide) (y_isProc (j := 1) hs rfl hh (by omega) ?_)
    by_cases e : sk (h - 1 - 1) = 1
    · rw [if_pos e] at k ⊢; exact br_f (by decide) k
    · rw [if_neg e] at k ⊢; exact br_t rfl k
  by_cases e : sk (h - 1 - 0) = 1
  · rw [if_pos e] at go ⊢; exact br_f (by decide) (go 1 rfl)
  · rw [if_neg e] at go ⊢; exact br_t rfl (go 0 rfl)
/-- one operand -/
theorem y_cmp1 {post : SY → Prop} {op h : Nat} (hop : op < 45) (hn : ztk op = 1) (hz : 1 ≤ h) (hh : h ≤ 24) (hs : yh = nI h)
    (k : wY_compute_72 post (nI op) 1 (sv (h - 1 - 0)) 0 (if sk (h - 1 - 0) = 1 then 1 else 0) 0 yt yo yh yi ya ye yp ys yc nw gn bg wd tk tv dg sk sv vk vv hw fr og lf st la fm fc gr wi mn qx qy ss cl cp nx ny) : wpY_compute post (yt, yo, yh, yi, ya, ye, yp, ys, yc, nw, gn, bg, wd, tk, tv, dg, sk, sv, vk, vv, hw, fr, og, lf, st, la, fm, fc, gr, wi, mn, qx, qy, ss, cl, cp, nx, ny) (nI op) := by
  unfold wpY_compute
  refine y_takes hop ?_
  rw [hn]
  refine br_f (by decide) (y_top (j := 0) hs rfl hh (by omega) (br_t (by decide) (br_f (by decide) (y_isProc (j := 0) hs rfl hh (by omega) ?_))))
  by_cases e : sk (h - 1 - 0) = 1
  · rw [if_pos e] at k ⊢; exact br_f (by decide) (br_t (by decide) k)
  · rw [if_neg e] at k ⊢; exact br_t rfl (br_t (by decide) k)
theorem y_cmp0 {post : SY → Prop} {op : Nat} (hop : op < 45) (hn : ztk op = 0) (k : wY_compute_72 post (nI op) 0 0 0 0 0 yt yo yh yi ya ye yp ys yc nw gn bg wd tk tv dg sk sv vk vv hw fr og lf st la fm fc gr wi mn qx qy ss cl cp nx ny) : wpY_compute post (yt, yo, yh, yi, ya, ye, yp, ys, yc, nw, gn, bg, wd, tk, tv, dg, sk, sv, vk, vv, hw, fr, og, lf, st, la, fm, fc, gr, wi, mn, qx, qy, ss, cl, cp, nx, ny) (nI op) := by
  unfold wpY_compute
  refine y_takes hop ?_
  rw [hn]
  exact br_t (by decide) (br_t (by decide) (br_t (by decide) (br_t (by decide) k)))
theorem y_c212 {post : SY → Prop} {op x3 x4 x5 x6 : Int32} {h : Nat} (hs : yh = nI h) (hh : h < 24) (k : wY_compute_216 post op x3 x4 x5 x6 yt yo (nI (h + 1)) yi ya ye yp ys yc nw gn bg wd tk tv dg (upd sk h 0) (upd sv h 0) vk vv hw fr og lf st la fm fc gr wi mn qx qy ss cl cp nx ny) : wY_compute_212 post op x3 x4 x5 x6 0 yt yo yh yi ya ye yp ys yc nw gn bg wd tk tv dg sk sv vk vv hw fr og lf st la fm fc gr wi mn qx qy ss cl cp nx ny := by
  unfold wY_compute_212 wY_compute_213
  exact y_put hs hh k
theorem st_add {t h n a c s pc : Nat} {PX : Int32 → SX → Prop} (hR : ZR t h n a c mA mB oX oY gY wD pC tk tv cb sk sv vk vv bp br bh bn bs bl px py pm cr sn sx sy sm sp hw fr og lf st la fm fc gr wi mn qx qy ss cl cp) (ha : a < t) (hk : tk a = 1) (hv : tv a = nI 0) (hpc : pC = nI pc) (hp48 : pc ≤ 48) (hE : ZE1 0 h sk pc = 0)
    (H : ∀ (e : Int32) (u' : SX) (v' : SY), ZStep a (s + 1) e u' v' → (∀ PY : SY → Prop, PY v' → wpY_execute PY (nI t, 0, nI h, nI n, nI a, 0, -1, nI (s + 1), nI c, nw, gn, bg, wd, tk, tv, dg, sk, sv, vk, vv, hw, fr, og, lf, st, la, fm, fc, gr, wi, mn, qx, qy, ss, cl, cp, nx, ny)) → PX e u') : wpX_execute PX (nI t, 0, nI a, nI s, -1, nI h, nI n, mA, mB, oX, oY, gY, wD, pC, nI c, tk, tv, cb, sk, sv, vk, vv, bp, br, bh, bn, bs, bl, px, py, pm, cr, sn, sx, sy, sm, sp, dg) (nI a) := by
  have hR' := hR
  obtain ⟨hT, hS, hV, hF, hPO, hG, hSV⟩ := hR
  have ht := hT.1
  have hh := hS.1
  have hmn := zg_mn hG hpc
  have hi : vp_in (nI a) 100 := vp_in_nI (by omega) (by omega)
  have e : (nI a).toNatClampNeg = a := zc_i (by omega)
  have ek : tk (nI a).toNatClampNeg = 1 := by rw [e]; exact hk
  have ev : tv (nI a).toNatClampNeg = nI 0 := by rw [e]; exact hv
  have hpn := po_next hPO ha (by rw [hk]; decide) (by rw [hk]; decide)
  obtain ⟨z1, z2, z3, z4⟩ := ze_0 hE
  have z1 : 2 ≤ h := z1
  refine nm_r (nI_1 s) (nm_r (nI_1 a) ⟨hi, br_t ek ⟨hi, nm_r ev (x_oe0 (by decide) hh hp48 rfl hpc hE (br_t rfl (br_f (by decide) ?_)))⟩⟩)
  unfold wpX_calculate
  refine x_operand (j := 1) rfl rfl hh (by omega) (x_operand (j := 0) rfl rfl hh (by omega) (br_f (by decide) (br_f (by decide) (br_t rfl (nm_e (x_calc159 (n := 2) (by decide) rfl z1 (by omega) rfl (H 0 _ (nI t, 0, nI (h - 2 + 1), nI n, nI a + 1, 0, -1, nI (s + 1), nI c, 0, 0, 0, 0, tk, tv, dg, upd sk (h - 2) 0, upd sv (h - 2) (sv (h - 1 - 1) + sv (h - 1 - 0)), vk, vv, hw, fr, og, lf, st, la, fm, fc, gr, wi, mn, qx, qy, ss, cl, cp, nx, ny) (zs_ok ⟨hT, zst_put (zst_le hS (by omega)) (by omega) zv_0, hV, hF, hpn, hG, hSV⟩ rfl (nI_1 a) rfl rfl rfl rfl rfl rfl) (fun PY hp => ?_))))))))
  refine ⟨hi, nm_r ev ⟨hi, nm_r ek (br_f (by decide) (br_f (by decide) (br_f (by decide) (br_t rfl ?_))))⟩⟩
  unfold wY_execute_245 wpY_operate
  refine y_check (by decide) hh hp48 (zst_k hS) rfl hmn (fun z => absurd hE z) (fun _ z => absurd z (by decide)) (fun _ _ _ => y_ck87 rfl hh z1 hmn hp48 (by decide) (by decide) (by decide) (by decide) (by decide) (by decide) (by decide) (by decide) (by decide) (by decide) (by decide) (y_ck335n (by decide) (by decide) (by decide) (by decide) (by decide) (by decide) (br_t rfl ?_)))
  exact br_f (by decide) (y_cmp2 (by decide) rfl z1 hh rfl (nm_r (pk_sub (b := 2) z1) (br_t rfl (y_put rfl (by omega) (y_c97 (by decide) (by decide) (by decide) (by decide) (by decide) (by decide) (by decide) (by decide) (by decide) (by decide) (by decide) (by decide) hp)))))
theorem st_sub {t h n a c s pc : Nat} {PX : Int32 → SX → Prop} (hR : ZR t h n a c mA mB oX oY gY wD pC tk tv cb sk sv vk vv bp br bh bn bs bl px py pm cr sn sx sy sm sp hw fr og lf st la fm fc gr wi mn qx qy ss cl cp) (ha : a < t) (hk : tk a = 1) (hv : tv a = nI 1) (hpc : pC = nI pc) (hp48 : pc ≤ 48) (hE : ZE1 1 h sk pc = 0)
    (H : ∀ (e : Int32) (u' : SX) (v' : SY), ZStep a (s + 1) e u' v' → (∀ PY : SY → Prop, PY v' → wpY_execute PY (nI t, 0, nI h, nI n, nI a, 0, -1, nI (s + 1), nI c, nw, gn, bg, wd, tk, tv, dg, sk, sv, vk, vv, hw, fr, og, lf, st, la, fm, fc, gr, wi, mn, qx, qy, ss, cl, cp, nx, ny)) → PX e u') : wpX_execute PX (nI t, 0, nI a, nI s, -1, nI h, nI n, mA, mB, oX, oY, gY, wD, pC, nI c, tk, tv, cb, sk, sv, vk, vv, bp, br, bh, bn, bs, bl, px, py, pm, cr, sn, sx, sy, sm, sp, dg) (nI a) := by
  have hR' := hR
  obtain ⟨hT, hS, hV, hF, hPO, hG, hSV⟩ := hR
  have ht := hT.1
  have hh := hS.1
  have hmn := zg_mn hG hpc
  have hi : vp_in (nI a) 100 := vp_in_nI (by omega) (by omega)
  have e : (nI a).toNatClampNeg = a := zc_i (by omega)
  have ek : tk (nI a).toNatClampNeg = 1 := by rw [e]; exact hk
  have ev : tv (nI a).toNatClampNeg = nI 1 := by rw [e]; exact hv
  have hpn := po_next hPO ha (by rw [hk]; decide) (by rw [hk]; decide)
  obtain ⟨z1, z2, z3, z4⟩ := ze_0 hE
  have z1 : 2 ≤ h := z1
  refine nm_r (nI_1 s) (nm_r (nI_1 a) ⟨hi, br_t ek ⟨hi, nm_r ev (x_oe0 (by decide) hh hp48 rfl hpc hE (br_t rfl (br_f (by decide) ?_)))⟩⟩)
  unfold wpX_calculate
  refine x_operand (j := 1) rfl rfl hh (by omega) (x_operand (j := 0) rfl rfl hh (by omega) (br_f (by decide) (br_f (by decide) (br_f (by decide) (br_t rfl (nm_e (x_calc159 (n := 2) (by decide) rfl z1 (by omega) rfl (H 0 _ (nI t, 0, nI (h - 2 + 1), nI n, nI a + 1, 0, -1, nI (s + 1), nI c, 0, 0, 0, 0, tk, tv, dg, upd sk (h - 2) 0, upd sv (h - 2) (sv (h - 1 - 1) - sv (h - 1 - 0)), vk, vv, hw, fr, og, lf, st, la, fm, fc, gr, wi, mn, qx, qy, ss, cl, cp, nx, ny) (zs_ok ⟨hT, zst_put (zst_le hS (by omega)) (by omega) zv_0, hV, hF, hpn, hG, hSV⟩ rfl (nI_1 a) rfl rfl rfl rfl rfl rfl) (fun PY hp => ?_)))))))))
  refine ⟨hi, nm_r ev ⟨hi, nm_r ek (br_f (by decide) (br_f (by decide) (br_f (by decide) (br_t rfl ?_))))⟩⟩
  unfold wY_execute_245 wpY_operate
  refine y_check (by decide) hh hp48 (zst_k hS) rfl hmn (fun z => absurd hE z) (fun _ z => absurd z (by decide)) (fun _ _ _ => y_ck87 rfl hh z1 hmn hp48 (by decide) (by decide) (by decide) (by decide) (by decide) (by decide) (by decide) (by decide) (by decide) (by decide) (by decide) (y_ck335n (by decide) (by decide) (by decide) (by decide) (by decide) (by decide) (br_t rfl ?_)))
  exact br_f (by decide) (y_cmp2 (by decide) rfl z1 hh rfl (nm_r (pk_sub (b := 2) z1) (br_f (by decide) (br_t rfl (y_put rfl (by omega) (y_c111 (by decide) (by decide) (by decide) (by decide) (by decide) (by decide) (by decide) (by decide) (by decide) (by decide) (by decide) hp))))))
theorem st_mul {t h n a c s pc : Nat} {PX : Int32 → SX → Prop} (hR : ZR t h n a c mA mB oX oY gY wD pC tk tv cb sk sv vk vv bp br bh bn bs bl px py pm cr sn sx sy sm sp hw fr og lf st la fm fc gr wi mn qx qy ss cl cp) (ha : a < t) (hk : tk a = 1) (hv : tv a = nI 2) (hpc : pC = nI pc) (hp48 : pc ≤ 48) (hE : ZE1 2 h sk pc = 0)
    (H : ∀ (e : Int32) (u' : SX) (v' : SY), ZStep a (s + 1) e u' v' → (∀ PY : SY → Prop, PY v' → wpY_execute PY (nI t, 0, nI h, nI n, nI a, 0, -1, nI (s + 1), nI c, nw, gn, bg, wd, tk, tv, dg, sk, sv, vk, vv, hw, fr, og, lf, st, la, fm, fc, gr, wi, mn, qx, qy, ss, cl, cp, nx, ny)) → PX e u') : wpX_execute PX (nI t, 0, nI a, nI s, -1, nI h, nI n, mA, mB, oX, oY, gY, wD, pC, nI c, tk, tv, cb, sk, sv, vk, vv, bp, br, bh, bn, bs, bl, px, py, pm, cr, sn, sx, sy, sm, sp, dg) (nI a) := by
  have hR' := hR
  obtain ⟨hT, hS, hV, hF, hPO, hG, hSV⟩ := hR
  have ht := hT.1
  have hh := hS.1
  have hmn := zg_mn hG hpc
  have hi : vp_in (nI a) 100 := vp_in_nI (by omega) (by omega)
  have e : (nI a).toNatClampNeg = a := zc_i (by omega)
  have ek : tk (nI a).toNatClampNeg = 1 := by rw [e]; exact hk
  have ev : tv (nI a).toNatClampNeg = nI 2 := by rw [e]; exact hv
  have hpn := po_next hPO ha (by rw [hk]; decide) (by rw [hk]; decide)
  obtain ⟨z1, z2, z3, z4⟩ := ze_0 hE
  have z1 : 2 ≤ h := z1
  refine nm_r (nI_1 s) (nm_r (nI_1 a) ⟨hi, br_t ek ⟨hi, nm_r ev (x_oe0 (by decide) hh hp48 rfl hpc hE (br_t rfl (br_f (by decide) ?_)))⟩⟩)
  unfold wpX_calculate
  refine x_operand (j := 1) rfl rfl hh (by omega) (x_operand (j := 0) rfl rfl hh (by omega) (br_f (by decide) (br_f (by decide) (br_f (by decide) (br_f (by decide) (br_t rfl (nm_e (x_calc159 (n := 2) (by decide) rfl z1 (by omega) rfl (H 0 _ (nI t, 0, nI (h - 2 + 1), nI n, nI a + 1, 0, -1, nI (s + 1), nI c, 0, 0, 0, 0, tk, tv, dg, upd sk (h - 2) 0, upd sv (h - 2) (sv (h - 1 - 1) * sv (h - 1 - 0)), vk, vv, hw, fr, og, lf, st, la, fm, fc, gr, wi, mn, qx, qy, ss, cl, cp, nx, ny) (zs_ok ⟨hT, zst_put (zst_le hS (by omega)) (by omega) zv_0, hV, hF, hpn, hG, hSV⟩ rfl (nI_1 a) rfl rfl rfl rfl rfl rfl) (fun PY hp => ?_))))))))))
  refine ⟨hi, nm_r ev ⟨hi, nm_r ek (br_f (by decide) (br_f (by decide) (br_f (by decide) (br_t rfl ?_))))⟩⟩
  unfold wY_execute_245 wpY_operate
  refine y_check (by decide) hh hp48 (zst_k hS) rfl hmn (fun z => absurd hE z) (fun _ z => absurd z (by decide)) (fun _ _ _ => y_ck87 rfl hh z1 hmn hp48 (by decide) (by decide) (by decide) (by decide) (by decide) (by decide) (by decide) (by decide) (by decide) (by decide) (by decide) (y_ck335n (by decide) (by decide) (by decide) (by decide) (by decide) (by decide) (br_t rfl ?_)))
  exact br_f (by decide) (y_cmp2 (by decide) rfl z1 hh rfl (nm_r (pk_sub (b := 2) z1) (br_f (by decide) (br_f (by decide) (br_t rfl (y_put rfl (by omega) (y_c125 (by decide) (by decide) (by decide) (by decide) (by decide) (by decide) (by decide) (by decide) (by decide) (by decide) hp)))))))
theorem st_neg {t h n a c s pc : Nat} {PX : Int32 → SX → Prop} (hR : ZR t h n a c mA mB oX oY gY wD pC tk tv cb sk sv vk vv bp br bh bn bs bl px py pm cr sn sx sy sm sp hw fr og lf st la fm fc gr wi mn qx qy ss cl cp) (ha : a < t) (hk : tk a = 1) (hv : tv a = nI 5) (hpc : pC = nI pc) (hp48 : pc ≤ 48) (hE : ZE1 5 h sk pc = 0)
    (H : ∀ (e : Int32) (u' : SX) (v' : SY), ZStep a (s + 1) e u' v' → (∀ PY : SY → Prop, PY v' → wpY_execute PY (nI t, 0, nI h, nI n, nI a, 0, -1, nI (s + 1), nI c, nw, gn, bg, wd, tk, tv, dg, sk, sv, vk, vv, hw, fr, og, lf, st, la, fm, fc, gr, wi, mn, qx, qy, ss, cl, cp, nx, ny)) → PX e u') : wpX_execute PX (nI t, 0, nI a, nI s, -1, nI h, nI n, mA, mB, oX, oY, gY, wD, pC, nI c, tk, tv, cb, sk, sv, vk, vv, bp, br, bh, bn, bs, bl, px, py, pm, cr, sn, sx, sy, sm, sp, dg) (nI a) := by
  have hR' := hR
  obtain ⟨hT, hS, hV, hF, hPO, hG, hSV⟩ := hR
  have ht := hT.1
  have hh := hS.1
  have hmn := zg_mn hG hpc
  have hi : vp_in (nI a) 100 := vp_in_nI (by omega) (by omega)
  have e : (nI a).toNatClampNeg = a := zc_i (by omega)
  have ek : tk (nI a).toNatClampNeg = 1 := by rw [e]; exact hk
  have ev : tv (nI a).toNatClampNeg = nI 5 := by rw [e]; exact hv
  have hpn := po_next hPO ha (by rw [hk]; decide) (by rw [hk]; decide)
  obtain ⟨z1, z2, z3, z4⟩ := ze_0 hE
  have z1 : 1 ≤ h := z1
  refine nm_r (nI_1 s) (nm_r (nI_1 a) ⟨hi, br_t ek ⟨hi, nm_r ev (x_oe0 (by decide) hh hp48 rfl hpc hE (br_t rfl (br_f (by decide) ?_)))⟩⟩)
  unfold wpX_calculate
  refine x_operandA (j := 1) rfl rfl hh (by omega) (fun _ => x_operand (j := 0) rfl rfl hh (by omega) (br_f (by decide) (br_f (by decide) (br_f (by decide) (br_f (by decide) (br_f (by decide) (br_f (by decide) (br_f (by decide) (br_t rfl (nm_e (x_calc159 (n := 1) (by decide) rfl z1 (by omega) rfl (H 0 _ (nI t, 0, nI (h - 1 + 1), nI n, nI a + 1, 0, -1, nI (s + 1), nI c, 0, 0, 0, 0, tk, tv, dg, upd sk (h - 1) 0, upd sv (h - 1) (-sv (h - 1 - 0)), vk, vv, hw, fr, og, lf, st, la, fm, fc, gr, wi, mn, qx, qy, ss, cl, cp, nx, ny) (zs_ok ⟨hT, zst_put (zst_le hS (by omega)) (by omega) zv_0, hV, hF, hpn, hG, hSV⟩ rfl (nI_1 a) rfl rfl rfl rfl rfl rfl) (fun PY hp => ?_)))))))))))))
  refine ⟨hi, nm_r ev ⟨hi, nm_r ek (br_f (by decide) (br_f (by decide) (br_f (by decide) (br_t rfl ?_))))⟩⟩
  unfold wY_execute_245 wpY_operate
  refine y_check (by decide) hh hp48 (zst_k hS) rfl hmn (fun z => absurd hE z) (fun _ z => absurd z (by decide)) (fun _ _ _ => y_ck87 rfl hh z1 hmn hp48 (by decide) (by decide) (by decide) (by decide) (by decide) (by decide) (by decide) (by decide) (by decide) (by decide) (by decide) (y_ck335n (by decide) (by decide) (by decide) (by decide) (by decide) (by decide) (br_t rfl ?_)))
  exact br_f (by decide) (y_cmp1 (by decide) rfl z1 hh rfl (nm_r (pk_sub (b := 1) z1) (br_f (by decide) (br_f (by decide) (br_f (by decide) (br_f (by decide) (br_f (by decide) (br_t rfl (y_put rfl (by omega) (y_c165 (by decide) (by decide) (by decide) (by decide) (by decide) (by decide) (by decide) hp))))))))))
theorem st_div {t h n a c s pc : Nat} {PX : Int32 → SX → Prop} (hR : ZR t h n a c mA mB oX oY gY wD pC tk tv cb sk sv vk vv bp br bh bn bs bl px py pm cr sn sx sy sm sp hw fr og lf st la fm fc gr wi mn qx qy ss cl cp) (ha : a < t) (hk : tk a = 1) (hv : tv a = nI 3) (hpc : pC = nI pc) (hp48 : pc ≤ 48) (hE : ZE1 3 h sk pc = 0)
    (H : ∀ (e : Int32) (u' : SX) (v' : SY), ZStep a (s + 1) e u' v' → (∀ PY : SY → Prop, PY v' → wpY_execute PY (nI t, 0, nI h, nI n, nI a, 0, -1, nI (s + 1), nI c, nw, gn, bg, wd, tk, tv, dg, sk, sv, vk, vv, hw, fr, og, lf, st, la, fm, fc, gr, wi, mn, qx, qy, ss, cl, cp, nx, ny)) → PX e u') : wpX_execute PX (nI t, 0, nI a, nI s, -1, nI h, nI n, mA, mB, oX, oY, gY, wD, pC, nI c, tk, tv, cb, sk, sv, vk, vv, bp, br, bh, bn, bs, bl, px, py, pm, cr, sn, sx, sy, sm, sp, dg) (nI a) := by
  have hR' := hR
  obtain ⟨hT, hS, hV, hF, hPO, hG, hSV⟩ := hR
  have ht := hT.1
  have hh := hS.1
  have hmn := zg_mn hG hpc
  have hi : vp_in (nI a) 100 := vp_in_nI (by omega) (by omega)
  have e : (nI a).toNatClampNeg = a := zc_i (by omega)
  have ek : tk (nI a).toNatClampNeg = 1 := by rw [e]; exact hk
  have ev : tv (nI a).toNatClampNeg = nI 3 := by rw [e]; exact hv
  have hpn := po_next hPO ha (by rw [hk]; decide) (by rw [hk]; decide)
  obtain ⟨z1, z2, z3, z4⟩ := ze_0 hE
  have z1 : 2 ≤ h := z1
  refine nm_r (nI_1 s) (nm_r (nI_1 a) ⟨hi, br_t ek ⟨hi, nm_r ev (x_oe0 (by decide) hh hp48 rfl hpc hE (br_t rfl (br_f (by decide) ?_)))⟩⟩)
  unfold wpX_calculate
  refine x_operand (j := 1) rfl rfl hh (by omega) (x_operand (j := 0) rfl rfl hh (by omega) (br_f (by decide) (br_f (by decide) (br_f (by decide) (br_f (by decide) (br_f (by decide) (br_t rfl ?_))))))) 
  by_cases h0 : sv (h - 1 - 0) = 0
  · refine br_t h0 (H 4 _ (nI t, 0, nI h, nI n, nI a, 4, -1, nI (s + 1), nI c, nw, gn, bg, wd, tk, tv, dg, sk, sv, vk, vv, hw, fr, og, lf, st, la, fm, fc, gr, wi, mn, qx, qy, ss, cl, cp, nx, ny) (zs_er hR' (by decide)) (fun PY hp => ?_))
    refine ⟨hi, nm_r ev ⟨hi, nm_r ek (br_f (by decide) (br_f (by decide) (br_f (by decide) (br_t rfl ?_))))⟩⟩
    unfold wY_execute_245 wpY_operate
    refine y_check (by decide) hh hp48 (zst_k hS) rfl hmn (fun z => absurd hE z) (fun _ _ => ?_) (fun _ z z' => absurd rfl (by first | exact z | exact z'))
    unfold wY_check_77
    exact y_top (j := 0) rfl rfl hh (by omega) (br_t h0 (br_f (by decide) hp))
  · refine br_f h0 ⟨h0, nm_e (x_calc159 (n := 2) (by decide) rfl z1 (by omega) rfl (H 0 _ (nI t, 0, nI (h - 2 + 1), nI n, nI a + 1, 0, -1, nI (s + 1), nI c, 0, 0, 0, 0, tk, tv, dg, upd sk (h - 2) 0, upd sv (h - 2) (sv (h - 1 - 1) / sv (h - 1 - 0)), vk, vv, hw, fr, og, lf, st, la, fm, fc, gr, wi, mn, qx, qy, ss, cl, cp, nx, ny) (zs_ok ⟨hT, zst_put (zst_le hS (by omega)) (by omega) zv_0, hV, hF, hpn, hG, hSV⟩ rfl (nI_1 a) rfl rfl rfl rfl rfl rfl) (fun PY hp => ?_)))⟩
    refine ⟨hi, nm_r ev ⟨hi, nm_r ek (br_f (by decide) (br_f (by decide) (br_f (by decide) (br_t rfl ?_))))⟩⟩
    unfold wY_execute_245 wpY_operate
    refine y_check (by decide) hh hp48 (zst_k hS) rfl hmn (fun z => absurd hE z) (fun _ _ => ?_) (fun _ z z' => absurd rfl (by first | exact z | exact z'))
    unfold wY_check_77
    refine y_top (j := 0) rfl rfl hh (by omega) (br_f h0 (y_ck87 rfl hh z1 hmn hp48 (by decide) (by decide) (by decide) (by decide) (by decide) (by decide) (by decide) (by decide) (by decide) (by decide) (by decide) (y_ck335n (by decide) (by decide) (by decide) (by decide) (by decide) (by decide) (br_t rfl ?_))))
    exact br_f (by decide) (y_cmp2 (by decide) rfl z1 hh rfl (nm_r (pk_sub (b := 2) z1) (br_f (by decide) (br_f (by decide) (br_f (by decide) (br_t rfl ⟨h0, y_put rfl (by omega) (y_c139 (by decide) (by decide) (by decide) (by decide) (by decide) (by decide) (by decide) (by decide) (by decide) hp)⟩))))))
theorem st_mod {t h n a c s pc : Nat} {PX : Int32 → SX → Prop} (hR : ZR t h n a c mA mB oX oY gY wD pC tk tv cb sk sv vk vv bp br bh bn bs bl px py pm cr sn sx sy sm sp hw fr og lf st la fm fc gr wi mn qx qy ss cl cp) (ha : a < t) (hk : tk a = 1) (hv : tv a = nI 4) (hpc : pC = nI pc) (hp48 : pc ≤ 48) (hE : ZE1 4 h sk pc = 0)
    (H : ∀ (e : Int32) (u' : SX) (v' : SY), ZStep a (s + 1) e u' v' → (∀ PY : SY → Prop, PY v' → wpY_execute PY (nI t, 0, nI h, nI n, nI a, 0, -1, nI (s + 1), nI c, nw, gn, bg, wd, tk, tv, dg, sk, sv, vk, vv, hw, fr, og, lf, st, la, fm, fc, gr, wi, mn, qx, qy, ss, cl, cp, nx, ny)) → PX e u') : wpX_execute PX (nI t, 0, nI a, nI s, -1, nI h, nI n, mA, mB, oX, oY, gY, wD, pC, nI c, tk, tv, cb, sk, sv, vk, vv, bp, br, bh, bn, bs, bl, px, py, pm, cr, sn, sx, sy, sm, sp, dg) (nI a) := by
  have hR' := hR
  obtain ⟨hT, hS, hV, hF, hPO, hG, hSV⟩ := hR
  have ht := hT.1
  have hh := hS.1
  have hmn := zg_mn hG hpc
  have hi : vp_in (nI a) 100 := vp_in_nI (by omega) (by omega)
  have e : (nI a).toNatClampNeg = a := zc_i (by omega)
  have ek : tk (nI a).toNatClampNeg = 1 := by rw [e]; exact hk
  have ev : tv (nI a).toNatClampNeg = nI 4 := by rw [e]; exact hv
  have hpn := po_next hPO ha (by rw [hk]; decide) (by rw [hk]; decide)
  obtain ⟨z1, z2, z3, z4⟩ := ze_0 hE
  have z1 : 2 ≤ h := z1
  refine nm_r (nI_1 s) (nm_r (nI_1 a) ⟨hi, br_t ek ⟨hi, nm_r ev (x_oe0 (by decide) hh hp48 rfl hpc hE (br_t rfl (br_f (by decide) ?_)))⟩⟩)
  unfold wpX_calculate
  refine x_operand (j := 1) rfl rfl hh (by omega) (x_operand (j := 0) rfl rfl hh (by omega) (br_f (by decide) (br_f (by decide) (br_f (by decide) (br_f (by decide) (br_f (by decide) (br_f (by decide) (br_t rfl ?_)))))))) 
  by_cases h0 : sv (h - 1 - 0) = 0
  · refine br_t h0 (H 4 _ (nI t, 0, nI h, nI n, nI a, 4, -1, nI (s + 1), nI c, nw, gn, bg, wd, tk, tv, dg, sk, sv, vk, vv, hw, fr, og, lf, st, la, fm, fc, gr, wi, mn, qx, qy, ss, cl, cp, nx, ny) (zs_er hR' (by decide)) (fun PY hp => ?_))
    refine ⟨hi, nm_r ev ⟨hi, nm_r ek (br_f (by decide) (br_f (by decide) (br_f (by decide) (br_t rfl ?_))))⟩⟩
    unfold wY_execute_245 wpY_operate
    refine y_check (by decide) hh hp48 (zst_k hS) rfl hmn (fun z => absurd hE z) (fun _ _ => ?_) (fun _ z z' => absurd rfl (by first | exact z | exact z'))
    unfold wY_check_77
    exact y_top (j := 0) rfl rfl hh (by omega) (br_t h0 (br_f (by decide) hp))
  · refine br_f h0 ⟨h0, nm_e (x_calc159 (n := 2) (by decide) rfl z1 (by omega) rfl (H 0 _ (nI t, 0, nI (h - 2 + 1), nI n, nI a + 1, 0, -1, nI (s + 1), nI c, 0, 0, 0, 0, tk, tv, dg, upd sk (h - 2) 0, upd sv (h - 2) (sv (h - 1 - 1) - sv (h - 1 - 1) / sv (h - 1 - 0) * sv (h - 1 - 0)), vk, vv, hw, fr, og, lf, st, la, fm, fc, gr, wi, mn, qx, qy, ss, cl, cp, nx, ny) (zs_ok ⟨hT, zst_put (zst_le hS (by omega)) (by omega) zv_0, hV, hF, hpn, hG, hSV⟩ rfl (nI_1 a) rfl rfl rfl rfl rfl rfl) (fun PY hp => ?_)))⟩
    refine ⟨hi, nm_r ev ⟨hi, nm_r ek (br_f (by decide) (br_f (by decide) (br_f (by decide) (br_t rfl ?_))))⟩⟩
    unfold wY_execute_245 wpY_operate
    refine y_check (by decide) hh hp48 (zst_k hS) rfl hmn (fun z => absurd hE z) (fun _ _ => ?_) (fun _ z z' => absurd rfl (by first | exact z | exact z'))
    unfold wY_check_77
    refine y_top (j := 0) rfl rfl hh (by omega) (br_f h0 (y_ck87 rfl hh z1 hmn hp48 (by decide) (by decide) (by decide) (by decide) (by decide) (by decide) (by decide) (by decide) (by decide) (by decide) (by decide) (y_ck335n (by decide) (by decide) (by decide) (by decide) (by decide) (by decide) (br_t rfl ?_))))
    exact br_f (by decide) (y_cmp2 (by decide) rfl z1 hh rfl (nm_r (pk_sub (b := 2) z1) (br_f (by decide) (br_f (by decide) (br_f (by decide) (br_f (by decide) (br_t rfl ⟨h0, y_put rfl (by omega) (y_c153 (by decide) (by decide) (by decide) (by decide) (by decide) (by decide) (by decide) (by decide) hp)⟩)))))))
theorem st_lt {t h n a c s pc : Nat} {PX : Int32 → SX → Prop} (hR : ZR t h n a c mA mB oX oY gY wD pC tk tv cb sk sv vk vv bp br bh bn bs bl px py pm cr sn sx sy sm sp hw fr og lf st la fm fc gr wi mn qx qy ss cl cp) (ha : a < t) (hk : tk a = 1) (hv : tv a = nI 6) (hpc : pC = nI pc) (hp48 : pc ≤ 48) (hE : ZE1 6 h sk pc = 0)
    (H : ∀ (e : Int32) (u' : SX) (v' : SY), ZStep a (s + 1) e u' v' → (∀ PY : SY → Prop, PY v' → wpY_execute PY (nI t, 0, nI h, nI n, nI a, 0, -1, nI (s + 1), nI c, nw, gn, bg, wd, tk, tv, dg, sk, sv, vk, vv, hw, fr, og, lf, st, la, fm, fc, gr, wi, mn, qx, qy, ss, cl, cp, nx, ny)) → PX e u') : wpX_execute PX (nI t, 0, nI a, nI s, -1, nI h, nI n, mA, mB, oX, oY, gY, wD, pC, nI c, tk, tv, cb, sk, sv, vk, vv, bp, br, bh, bn, bs, bl, px, py, pm, cr, sn, sx, sy, sm, sp, dg) (nI a) := by
  have hR' := hR
  obtain ⟨hT, hS, hV, hF, hPO, hG, hSV⟩ := hR
  have ht := hT.1
  have hh := hS.1
  have hmn := zg_mn hG hpc
  have hi : vp_in (nI a) 100 := vp_in_nI (by omega) (by omega)
  have e : (nI a).toNatClampNeg = a := zc_i (by omega)
  have ek : tk (nI a).toNatClampNeg = 1 := by rw [e]; exact hk
  have ev : tv (nI a).toNatClampNeg = nI 6 := by rw [e]; exact hv
  have hpn := po_next hPO ha (by rw [hk]; decide) (by rw [hk]; decide)
  obtain ⟨z1, z2, z3, z4⟩ := ze_0 hE
  have z1 : 2 ≤ h := z1
  refine nm_r (nI_1 s) (nm_r (nI_1 a) ⟨hi, br_t ek ⟨hi, nm_r ev (x_oe0 (by decide) hh hp48 rfl hpc hE (br_t rfl (br_f (by decide) ?_)))⟩⟩)
  unfold wpX_calculate
  refine x_operand (j := 1) rfl rfl hh (by omega) (x_operand (j := 0) rfl rfl hh (by omega) (br_f (by decide) (br_f (by decide) (br_f (by decide) (br_f (by decide) (br_f (by decide) (br_f (by decide) (br_f (by decide) (br_f (by decide) (br_t rfl ?_)))))))))) 
  by_cases hc : sv (h - 1 - 0) ≤ sv (h - 1 - 1)
  · refine br_t hc (x_calc159 (n := 2) (by decide) rfl z1 (by omega) rfl (H 0 _ (nI t, 0, nI (h - 2 + 1), nI n, nI a + 1, 0, -1, nI (s + 1), nI c, 0, 0, 0, 0, tk, tv, dg, upd sk (h - 2) 0, upd sv (h - 2) (0), vk, vv, hw, fr, og, lf, st, la, fm, fc, gr, wi, mn, qx, qy, ss, cl, cp, nx, ny) (zs_ok ⟨hT, zst_put (zst_le hS (by omega)) (by omega) zv_0, hV, hF, hpn, hG, hSV⟩ rfl (nI_1 a) rfl rfl rfl rfl rfl rfl) (fun PY hp => ?_)))
    refine ⟨hi, nm_r ev ⟨hi, nm_r ek (br_f (by decide) (br_f (by decide) (br_f (by decide) (br_t rfl ?_))))⟩⟩
    unfold wY_execute_245 wpY_operate
    refine y_check (by decide) hh hp48 (zst_k hS) rfl hmn (fun z => absurd hE z) (fun _ z => absurd z (by decide)) (fun _ _ _ => y_ck87 rfl hh z1 hmn hp48 (by decide) (by decide) (by decide) (by decide) (by decide) (by decide) (by decide) (by decide) (by decide) (by decide) (by decide) (y_ck335n (by decide) (by decide) (by decide) (by decide) (by decide) (by decide) (br_t rfl ?_)))
    exact br_f (by decide) (y_cmp2 (by decide) rfl z1 hh rfl (nm_r (pk_sub (b := 2) z1) (br_f (by decide) (br_f (by decide) (br_f (by decide) (br_f (by decide) (br_f (by decide) (br_f (by decide) (br_t rfl (br_t hc (y_put rfl (by omega) (y_c187 (by decide) (by decide) (by decide) (by decide) (by decide) (by decide) hp))))))))))))
  · refine br_f hc (x_calc159 (n := 2) (by decide) rfl z1 (by omega) rfl (H 0 _ (nI t, 0, nI (h - 2 + 1), nI n, nI a + 1, 0, -1, nI (s + 1), nI c, 0, 0, 0, 0, tk, tv, dg, upd sk (h - 2) 0, upd sv (h - 2) (1), vk, vv, hw, fr, og, lf, st, la, fm, fc, gr, wi, mn, qx, qy, ss, cl, cp, nx, ny) (zs_ok ⟨hT, zst_put (zst_le hS (by omega)) (by omega) zv_0, hV, hF, hpn, hG, hSV⟩ rfl (nI_1 a) rfl rfl rfl rfl rfl rfl) (fun PY hp => ?_)))
    refine ⟨hi, nm_r ev ⟨hi, nm_r ek (br_f (by decide) (br_f (by decide) (br_f (by decide) (br_t rfl ?_))))⟩⟩
    unfold wY_execute_245 wpY_operate
    refine y_check (by decide) hh hp48 (zst_k hS) rfl hmn (fun z => absurd hE z) (fun _ z => absurd z (by decide)) (fun _ _ _ => y_ck87 rfl hh z1 hmn hp48 (by decide) (by decide) (by decide) (by decide) (by decide) (by decide) (by decide) (by decide) (by decide) (by decide) (by decide) (y_ck335n (by decide) (by decide) (by decide) (by decide) (by decide) (by decide) (br_t rfl ?_)))
    exact br_f (by decide) (y_cmp2 (by decide) rfl z1 hh rfl (nm_r (pk_sub (b := 2) z1) (br_f (by decide) (br_f (by decide) (br_f (by decide) (br_f (by decide) (br_f (by decide) (br_f (by decide) (br_t rfl (br_f hc (y_put rfl (by omega) (y_c187 (by decide) (by decide) (by decide) (by decide) (by decide) (by decide) hp))))))))))))
theorem st_eq {t h n a c s pc : Nat} {PX : Int32 → SX → Prop} (hR : ZR t h n a c mA mB oX oY gY wD pC tk tv cb sk sv vk vv bp br bh bn bs bl px py pm cr sn sx sy sm sp hw fr og lf st la fm fc gr wi mn qx qy ss cl cp) (ha : a < t) (hk : tk a = 1) (hv : tv a = nI 7) (hpc : pC = nI pc) (hp48 : pc ≤ 48) (hE : ZE1 7 h sk pc = 0)
    (H : ∀ (e : Int32) (u' : SX) (v' : SY), ZStep a (s + 1) e u' v' → (∀ PY : SY → Prop, PY v' → wpY_execute PY (nI t, 0, nI h, nI n, nI a, 0, -1, nI (s + 1), nI c, nw, gn, bg, wd, tk, tv, dg, sk, sv, vk, vv, hw, fr, og, lf, st, la, fm, fc, gr, wi, mn, qx, qy, ss, cl, cp, nx, ny)) → PX e u') : wpX_execute PX (nI t, 0, nI a, nI s, -1, nI h, nI n, mA, mB, oX, oY, gY, wD, pC, nI c, tk, tv, cb, sk, sv, vk, vv, bp, br, bh, bn, bs, bl, px, py, pm, cr, sn, sx, sy, sm, sp, dg) (nI a) := by
  have hR' := hR
  obtain ⟨hT, hS, hV, hF, hPO, hG, hSV⟩ := hR
  have ht := hT.1
  have hh := hS.1
  have hmn := zg_mn hG hpc
  have hi : vp_in (nI a) 100 := vp_in_nI (by omega) (by omega)
  have e : (nI a).toNatClampNeg = a := zc_i (by omega)
  have ek : tk (nI a).toNatClampNeg = 1 := by rw [e]; exact hk
  have ev : tv (nI a).toNatClampNeg = nI 7 := by rw [e]; exact hv
  have hpn := po_next hPO ha (by rw [hk]; decide) (by rw [hk]; decide)
  obtain ⟨z1, z2, z3, z4⟩ := ze_0 hE
  have z1 : 2 ≤ h := z1
  refine nm_r (nI_1 s) (nm_r (nI_1 a) ⟨hi, br_t ek ⟨hi, nm_r ev (x_oe0 (by decide) hh hp48 rfl hpc hE (br_t rfl (br_f (by decide) ?_)))⟩⟩)
  unfold wpX_calculate
  refine x_operand (j := 1) rfl rfl hh (by omega) (x_operand (j := 0) rfl rfl hh (by omega) (br_f (by decide) (br_t (by decide) ?_)))
  have k0 := zst_k hS (h - 1 - 0) (by omega)
  have k1 := zst_k hS (h - 1 - 1) (by omega)
  have kk : sk (h - 1 - 1) = sk (h - 1 - 0) ↔ (if sk (h - 1 - 1) = 1 then (1 : Int32) else 0) = (if sk (h - 1 - 0) = 1 then 1 else 0) := by
    rcases k0 with q0 | q0 <;> rcases k1 with q1 | q1 <;> rw [q0, q1] <;> decide
  by_cases hv1 : sv (h - 1 - 1) = sv (h - 1 - 0)
  · by_cases hk1 : sk (h - 1 - 1) = sk (h - 1 - 0)
    · refine br_t hv1 (x_operandKind (j := 1) rfl rfl hh (by omega) (x_operandKind (j := 0) rfl rfl hh (by omega) (br_t hk1 (x_calc159 (n := 2) (by decide) rfl z1 (by omega) rfl (H 0 _ (nI t, 0, nI (h - 2 + 1), nI n, nI a + 1, 0, -1, nI (s + 1), nI c, 0, 0, 0, 0, tk, tv, dg, upd sk (h - 2) 0, upd sv (h - 2) (1), vk, vv, hw, fr, og, lf, st, la, fm, fc, gr, wi, mn, qx, qy, ss, cl, cp, nx, ny) (zs_ok ⟨hT, zst_put (zst_le hS (by omega)) (by omega) zv_0, hV, hF, hpn, hG, hSV⟩ rfl (nI_1 a) rfl rfl rfl rfl rfl rfl) (fun PY hp => ?_))))))
      refine ⟨hi, nm_r ev ⟨hi, nm_r ek (br_f (by decide) (br_f (by decide) (br_f (by decide) (br_t rfl ?_))))⟩⟩
      unfold wY_execute_245 wpY_operate
      refine y_check (by decide) hh hp48 (zst_k hS) rfl hmn (fun z => absurd hE z) (fun _ z => absurd z (by decide)) (fun _ _ _ => y_ck87 rfl hh z1 hmn hp48 (by decide) (by decide) (by decide) (by decide) (by decide) (by decide) (by decide) (by decide) (by decide) (by decide) (by decide) (y_ck335n (by decide) (by decide) (by decide) (by decide) (by decide) (by decide) (br_t rfl ?_)))
      exact br_f (by decide) (y_cmp2 (by decide) rfl z1 hh rfl (nm_r (pk_sub (b := 2) z1) (br_f (by decide) (br_f (by decide) (br_f (by decide) (br_f (by decide) (br_f (by decide) (br_f (by decide) (br_f (by decide) (br_t rfl (br_t hv1 (br_t (kk.mp hk1) (y_put rfl (by omega) (y_c216 (by decide) (by decide) (by decide) (by decide) (by decide) hp))))))))))))))
    · refine br_t hv1 (x_operandKind (j := 1) rfl rfl hh (by omega) (x_operandKind (j := 0) rfl rfl hh (by omega) (br_f hk1 (x_calc159 (n := 2) (by decide) rfl z1 (by omega) rfl (H 0 _ (nI t, 0, nI (h - 2 + 1), nI n, nI a + 1, 0, -1, nI (s + 1), nI c, 0, 0, 0, 0, tk, tv, dg, upd sk (h - 2) 0, upd sv (h - 2) (0), vk, vv, hw, fr, og, lf, st, la, fm, fc, gr, wi, mn, qx, qy, ss, cl, cp, nx, ny) (zs_ok ⟨hT, zst_put (zst_le hS (by omega)) (by omega) zv_0, hV, hF, hpn, hG, hSV⟩ rfl (nI_1 a) rfl rfl rfl rfl rfl rfl) (fun PY hp => ?_))))))
      refine ⟨hi, nm_r ev ⟨hi, nm_r ek (br_f (by decide) (br_f (by decide) (br_f (by decide) (br_t rfl ?_))))⟩⟩
      unfold wY_execute_245 wpY_operate
      refine y_check (by decide) hh hp48 (zst_k hS) rfl hmn (fun z => absurd hE z) (fun _ z => absurd z (by decide)) (fun _ _ _ => y_ck87 rfl hh z1 hmn hp48 (by decide) (by decide) (by decide) (by decide) (by decide) (by decide) (by decide) (by decide) (by decide) (by decide) (by decide) (y_ck335n (by decide) (by decide) (by decide) (by decide) (by decide) (by decide) (br_t rfl ?_)))
      exact br_f (by decide) (y_cmp2 (by decide) rfl z1 hh rfl (nm_r (pk_sub (b := 2) z1) (br_f (by decide) (br_f (by decide) (br_f (by decide) (br_f (by decide) (br_f (by decide) (br_f (by decide) (br_f (by decide) (br_t rfl (br_t hv1 (br_f (fun z => hk1 (kk.mpr z)) (y_c212 rfl (by omega) (y_c216 (by decide) (by decide) (by decide) (by decide) (by decide) hp))))))))))))))
  · refine br_f hv1 (x_calc159 (n := 2) (by decide) rfl z1 (by omega) rfl (H 0 _ (nI t, 0, nI (h - 2 + 1), nI n, nI a + 1, 0, -1, nI (s + 1), nI c, 0, 0, 0, 0, tk, tv, dg, upd sk (h - 2) 0, upd sv (h - 2) (0), vk, vv, hw, fr, og, lf, st, la, fm, fc, gr, wi, mn, qx, qy, ss, cl, cp, nx, ny) (zs_ok ⟨hT, zst_put (zst_le hS (by omega)) (by omega) zv_0, hV, hF, hpn, hG, hSV⟩ rfl (nI_1 a) rfl rfl rfl rfl rfl rfl) (fun PY hp => ?_)))
    refine ⟨hi, nm_r ev ⟨hi, nm_r ek (br_f (by decide) (br_f (by decide) (br_f (by decide) (br_t rfl ?_))))⟩⟩
    unfold wY_execute_245 wpY_operate
    refine y_check (by decide) hh hp48 (zst_k hS) rfl hmn (fun z => absurd hE z) (fun _ z => absurd z (by decide)) (fun _ _ _ => y_ck87 rfl hh z1 hmn hp48 (by decide) (by decide) (by decide) (by decide) (by decide) (by decide) (by decide) (by decide) (by decide) (by decide) (by decide) (y_ck335n (by decide) (by decide) (by decide) (by decide) (by decide) (by decide) (br_t rfl ?_)))
    exact br_f (by decide) (y_cmp2 (by decide) rfl z1 hh rfl (nm_r (pk_sub (b := 2) z1) (br_f (by decide) (br_f (by decide) (br_f (by decide) (br_f (by decide) (br_f (by decide) (br_f (by decide) (br_f (by decide) (br_t rfl (br_f hv1 (y_c212 rfl (by omega) (y_c216 (by decide) (by decide) (by decide) (by decide) (by decide) hp)))))))))))))
end
