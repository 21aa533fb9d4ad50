section
variable {tc ob ps su ep sd bc mA mB oX oY gY wD pC sC yt yo yh yi ya ye yp ys yc nw gn bg wd : Int32} {tk tv cb sk sv vk vv bp br bh bn bs bl px py pm cr sn sx sy sm sp dg hw fr og lf st la fm fc gr wi mn qx qy ss cl cp nx ny : Nat → Int32}
theorem ze_le (op h : Nat) (sk : Nat → Int32) (pc : Nat) : ZE1 op h sk pc ≤ 6 := by
  unfold ZE1
  split
  · omega
  · split
    · omega
    · split
      · omega
      · split <;> omega
theorem st_op {t h n a c s op : Nat} {PX : Int32 → SX → Prop} (hR : ZR t h n a c mA mB oX oY gY wD pC tk tv cb sk sv vk vv bp br bh bn bs bl px py pm cr sn sx sy sm sp hw fr og lf st la fm fc gr wi mn qx qy ss cl cp) (ha : a < t) (hk : tk a = 1) (hop : op < 45) (hv : tv a = nI op)
    (H : ∀ (e : Int32) (u' : SX) (v' : SY), ZStep a (s + 1) e u' v' → (∀ PY : SY → Prop, PY v' → wpY_execute PY (nI t, 0, nI h, nI n, nI a, 0, -1, nI (s + 1), nI c, nw, gn, bg, wd, tk, tv, dg, sk, sv, vk, vv, hw, fr, og, lf, st, la, fm, fc, gr, wi, mn, qx, qy, ss, cl, cp, nx, ny)) → PX e u') : wpX_execute PX (nI t, 0, nI a, nI s, -1, nI h, nI n, mA, mB, oX, oY, gY, wD, pC, nI c, tk, tv, cb, sk, sv, vk, vv, bp, br, bh, bn, bs, bl, px, py, pm, cr, sn, sx, sy, sm, sp, dg) (nI a) := by
  obtain ⟨pc, hpc, hPT⟩ := hR.2.2.2.2.2.1.2.2.2.2.1
  have hp48 := hPT.1
  by_cases hE : ZE1 op h sk pc = 0
  · have h45 : op = 0 ∨ op = 1 ∨ op = 2 ∨ op = 3 ∨ op = 4 ∨ op = 5 ∨ op = 6 ∨ op = 7 ∨ op = 8 ∨ op = 9 ∨ op = 10 ∨ op = 11 ∨ op = 12 ∨ op = 13 ∨ op = 14 ∨ op = 15 ∨ op = 16 ∨ op = 17 ∨ op = 18 ∨ op = 19 ∨ op = 20 ∨ op = 21 ∨ op = 22 ∨ op = 23 ∨ op = 24 ∨ op = 25 ∨ op = 26 ∨ op = 27 ∨ op = 28 ∨ op = 29 ∨ op = 30 ∨ op = 31 ∨ op = 32 ∨ op = 33 ∨ op = 34 ∨ op = 35 ∨ op = 36 ∨ op = 37 ∨ op = 38 ∨ op = 39 ∨ op = 40 ∨ op = 41 ∨ op = 42 ∨ op = 43 ∨ op = 44 := by omega
    rcases h45 with rfl | rfl | rfl | rfl | rfl | rfl | rfl | rfl | rfl | rfl | rfl | rfl | rfl | rfl | rfl | rfl | rfl | rfl | rfl | rfl | rfl | rfl | rfl | rfl | rfl | rfl | rfl | rfl | rfl | rfl | rfl | rfl | rfl | rfl | rfl | rfl | rfl | rfl | rfl | rfl | rfl | rfl | rfl | rfl | rfl
    · exact st_add hR ha hk hv hpc hp48 hE H
    · exact st_sub hR ha hk hv hpc hp48 hE H
    · exact st_mul hR ha hk hv hpc hp48 hE H
    · exact st_div hR ha hk hv hpc hp48 hE H
    · exact st_mod hR ha hk hv hpc hp48 hE H
    · exact st_neg hR ha hk hv hpc hp48 hE H
    · exact st_lt hR ha hk hv hpc hp48 hE H
    · exact st_eq hR ha hk hv hpc hp48 hE H
    · exact st_pop hR ha hk hv hpc hp48 hE H
    · exact st_dup hR ha hk hv hpc hp48 hE H
    · exact st_exch hR ha hk hv hpc hp48 hE H
    · exact st_index hR ha hk hv hpc hp48 hE H
    · exact st_count hR ha hk hv hpc hp48 hE H
    · exact st_clear hR ha hk hv hpc hp48 hE H
    · exact st_exec hR ha hk hv hpc hp48 hE H
    · exact st_if hR ha hk hv hpc hp48 hE H
    · exact st_ifelse hR ha hk hv hpc hp48 hE H
    · exact st_repeat hR ha hk hv hpc hp48 hE H
    · exact st_for hR ha hk hv hpc hp48 hE H
    · exact st_loop hR ha hk hv hpc hp48 hE H
    · exact st_exit hR ha hk hv hpc hp48 hE H
    · exact st_gsave hR ha hk hv hpc hp48 hE H
    · exact st_grestore hR ha hk hv hpc hp48 hE H
    · exact st_translate hR ha hk hv hpc hp48 hE H
    · exact st_scale hR ha hk hv hpc hp48 hE H
    · exact st_turn hR ha hk hv hpc hp48 hE H
    · exact st_gray hR ha hk hv hpc hp48 hE H
    · exact st_width hR ha hk hv hpc hp48 hE H
    · exact st_newpath hR ha hk hv hpc hp48 hE H
    · exact st_moveto hR ha hk hv hpc hp48 hE H
    · exact st_lineto hR ha hk hv hpc hp48 hE H
    · exact st_rmoveto hR ha hk hv hpc hp48 hE H
    · exact st_rlineto hR ha hk hv hpc hp48 hE H
    · exact st_curveto hR ha hk hv hpc hp48 hE H
    · exact st_close hR ha hk hv hpc hp48 hE H
    · exact st_point hR ha hk hv hpc hp48 hE H
    · exact st_fill hR ha hk hv hpc hp48 hE H
    · exact st_eofill hR ha hk hv hpc hp48 hE H
    · exact st_stroke hR ha hk hv hpc hp48 hE H
    · exact st_clip hR ha hk hv hpc hp48 hE H
    · exact st_eoclip hR ha hk hv hpc hp48 hE H
    · exact st_initclip hR ha hk hv hpc hp48 hE H
    · exact st_wipe hR ha hk hv hpc hp48 hE H
    · exact st_dot hR ha hk hv hpc hp48 hE H
    · exact st_box hR ha hk hv hpc hp48 hE H
  · have hR' := hR
    obtain ⟨hT, hS, hV, hF, hPO, hG, hSV⟩ := hR
    have ht := hT.1
    have hh := hS.1
    have hmn := zg_mn hG hpc
    have hi : vp_in (nI a) 100 := vp_in_nI (by omega) (by omega)
    have e : (nI a).toNatClampNeg = a := zc_i (by omega)
    have ek : tk (nI a).toNatClampNeg = 1 := by rw [e]; exact hk
    have ev : tv (nI a).toNatClampNeg = nI op := by rw [e]; exact hv
    have hle := ze_le op h sk pc
    have hne : nI (ZE1 op h sk pc) ≠ 0 := nI_ne0 (by omega) (by omega)
    refine nm_r (nI_1 s) (nm_r (nI_1 a) ⟨hi, br_t ek ⟨hi, nm_r ev (x_oe hop hh hp48 rfl hpc (br_f hne (H _ _ (nI t, 0, nI h, nI n, nI a, nI (ZE1 op h sk pc), -1, nI (s + 1), nI c, nw, gn, bg, wd, tk, tv, dg, sk, sv, vk, vv, hw, fr, og, lf, st, la, fm, fc, gr, wi, mn, qx, qy, ss, cl, cp, nx, ny) (zs_er hR' hne) (fun PY hp => ?_))))⟩⟩)
    refine ⟨hi, nm_r ev ⟨hi, nm_r ek (br_f (by decide) (br_f (by decide) (br_f (by decide) (br_t rfl ?_))))⟩⟩
    unfold wY_execute_245 wpY_operate
    exact y_check hop hh hp48 (zst_k hS) rfl hmn (fun _ => br_f hne hp) (fun z => absurd z hE) (fun z => absurd z hE)
theorem st_all {t h n a c s : Nat} {PX : Int32 → SX → Prop} (hR : ZR t h n a c mA mB oX oY gY wD pC tk tv cb sk sv vk vv bp br bh bn bs bl px py pm cr sn sx sy sm sp hw fr og lf st la fm fc gr wi mn qx qy ss cl cp) (ha : a < t)
    (H : ∀ (e : Int32) (u' : SX) (v' : SY), ZStep a (s + 1) e u' v' → (∀ PY : SY → Prop, PY v' → wpY_execute PY (nI t, 0, nI h, nI n, nI a, 0, -1, nI (s + 1), nI c, nw, gn, bg, wd, tk, tv, dg, sk, sv, vk, vv, hw, fr, og, lf, st, la, fm, fc, gr, wi, mn, qx, qy, ss, cl, cp, nx, ny)) → PX e u') : wpX_execute PX (nI t, 0, nI a, nI s, -1, nI h, nI n, mA, mB, oX, oY, gY, wD, pC, nI c, tk, tv, cb, sk, sv, vk, vv, bp, br, bh, bn, bs, bl, px, py, pm, cr, sn, sx, sy, sm, sp, dg) (nI a) := by
  rcases hR.1.2.1 a ha with z | ⟨z, op, hop, hv⟩ | z | z | ⟨z, _⟩ | ⟨z, _⟩
  · exact st_num hR ha z H
  · exact st_op hR ha z hop hv H
  · exact st_beg hR ha z H
  · exact st_end hR ha z H
  · exact st_load hR ha z H
  · exact st_store hR ha z H
end
def ZXR (post : Int32 → SX → Prop) (q : Nat) (e i : Int32) (u : SX) : Prop := match u with | (tc, ob, ps, su, ep, sd, bc, mA, mB, oX, oY, gY, wD, pC, sC, tk, tv, cb, sk, sv, vk, vv, bp, br, bh, bn, bs, bl, px, py, pm, cr, sn, sx, sy, sm, sp, dg) => wX_run_17 post q e i tc ob ps su ep sd bc mA mB oX oY gY wD pC sC tk tv cb sk sv vk vv bp br bh bn bs bl px py pm cr sn sx sy sm sp dg
def ZYR (PY : Int32 → SY → Prop) (q : Nat) (v : SY) : Prop := match v with | (yt, yo, yh, yi, ya, ye, yp, ys, yc, nw, gn, bg, wd, tk, tv, dg, sk, sv, vk, vv, hw, fr, og, lf, st, la, fm, fc, gr, wi, mn, qx, qy, ss, cl, cp, nx, ny) => wY_run_13 PY q yt yo yh yi ya ye yp ys yc nw gn bg wd tk tv dg sk sv vk vv hw fr og lf st la fm fc gr wi mn qx qy ss cl cp nx ny
theorem zr_zi {s : Nat} {u : SX} {v : SY} (h : ZRun s u v) : ZI u v := by
  obtain ⟨tc, ob, ps, su, ep, sd, bc, mA, mB, oX, oY, gY, wD, pC, sC, tk, tv, cb, sk, sv, vk, vv, bp, br, bh, bn, bs, bl, px, py, pm, cr, sn, sx, sy, sm, sp, dg⟩ := u
  obtain ⟨yt, yo, yh, yi, ya, ye, yp, ys, yc, nw, gn, bg, wd, tk', tv', dg', sk', sv', vk', vv', hw, fr, og, lf, st, la, fm, fc, gr, wi, mn, qx, qy, ss, cl, cp, nx, ny⟩ := v
  obtain ⟨t, h, n, a, c, ⟨e1, e2, e3, e4, e5, e6, e7, e8⟩, ⟨f1, f2, f3, f4, f5, f6, f7, f8, f9⟩, ⟨g1, g2, g3, g4, g5, g6, g7⟩, hT, hS, hV, hF, hPO, ⟨q6, q7, q8, q9, ⟨pc, q10, q11⟩, q12⟩, hSV⟩ := h
  exact ⟨⟨t, 0, h, ⟨e1, e2, e6, hS.1⟩, ⟨f1, f2, f3, f8.trans e4.symm⟩, ⟨g1, g2, g3, g4, g5, g6, g7⟩, hT, ⟨pc, q10, q9.trans q10, q11⟩, q12⟩, f7.trans e5.symm⟩
theorem run_l : ∀ (d i : Nat) (u : SX) (v : SY), i + d = 600 → ZRun i u v → ∀ (vB : SY) (_ : ∀ PY : Int32 → SY → Prop, (∃ q, ZYR PY q v) → ∃ q, ZYR PY q vB) (post : Int32 → SX → Prop)
    (_ : ∀ (r : Int32) (u' : SX) (v' : SY), ZI u' v' → (∀ PY : Int32 → SY → Prop, PY r v' → ∃ q, ZYR PY q vB) → post r u'), ZXR post (d + 2) 0 (nI i) u := by
  intro d
  induction d with
  | zero =>
    intro i u v hi hR vB hY post hpost
    have hz := zr_zi hR
    have hi6 : i = 600 := by omega
    subst hi6
    obtain ⟨tc, ob, ps, su, ep, sd, bc, mA, mB, oX, oY, gY, wD, pC, sC, tk, tv, cb, sk, sv, vk, vv, bp, br, bh, bn, bs, bl, px, py, pm, cr, sn, sx, sy, sm, sp, dg⟩ := u
    obtain ⟨yt, yo, yh, yi, ya, ye, yp, ys, yc, nw, gn, bg, wd, tk', tv', dg', sk', sv', vk', vv', hw, fr, og, lf, st, la, fm, fc, gr, wi, mn, qx, qy, ss, cl, cp, nx, ny⟩ := v
    obtain ⟨t, h, n, a, c, ⟨rfl, rfl, rfl, rfl, rfl, rfl, rfl, rfl⟩, ⟨rfl, rfl, rfl, rfl, rfl, rfl, rfl, rfl, rfl⟩, ⟨rfl, rfl, rfl, rfl, rfl, rfl, rfl⟩, hZ⟩ := hR
    have ht := hZ.1.1
    have ha := po_le hZ.2.2.2.2.1
    refine qs_f 600 600 (by omega) (br_t rfl (pk_le t a (fun h1 => ?_) (fun h1 => ?_)))
    · exact hpost 0 _ _ hz (fun PY k => hY PY ⟨1, ql_t t a h1 k⟩)
    · refine ql_t 600 600 (by omega) (br_f (by decide) (nm_r (nI_1 600) (qs_t 600 (600 + 1) (by omega) ?_)))
      refine hpost 11 _ (nI t, 0, nI h, nI n, nI a, 11, nI a, nI 600, nI c, nw, gn, bg, wd, tk', tv', dg', sk', sv', vk', vv', hw, fr, og, lf, st, la, fm, fc, gr, wi, mn, qx, qy, ss, cl, cp, nx, ny) ⟨?_, rfl⟩ (fun PY k => hY PY ⟨2, ql_f t a h1 (br_t rfl (br_t rfl (br_f (by decide) (br_c (fun _ => k) (fun _ => br_f (by decide) k)))))⟩)
      exact hz.1
  | succ d ih =>
    intro i u v hi hR vB hY post hpost
    have hz := zr_zi hR
    obtain ⟨tc, ob, ps, su, ep, sd, bc, mA, mB, oX, oY, gY, wD, pC, sC, tk, tv, cb, sk, sv, vk, vv, bp, br, bh, bn, bs, bl, px, py, pm, cr, sn, sx, sy, sm, sp, dg⟩ := u
    obtain ⟨yt, yo, yh, yi, ya, ye, yp, ys, yc, nw, gn, bg, wd, tk', tv', dg', sk', sv', vk', vv', hw, fr, og, lf, st, la, fm, fc, gr, wi, mn, qx, qy, ss, cl, cp, nx, ny⟩ := v
    obtain ⟨t, h, n, a, c, ⟨rfl, rfl, rfl, rfl, rfl, rfl, rfl, rfl⟩, ⟨rfl, rfl, rfl, rfl, rfl, rfl, rfl, rfl, rfl⟩, ⟨rfl, rfl, rfl, rfl, rfl, rfl, rfl⟩, hZ⟩ := hR
    have ht := hZ.1.1
    have ha := po_le hZ.2.2.2.2.1
    refine qs_f 600 i (by omega) (br_t rfl (pk_le t a (fun h1 => ?_) (fun h1 => ?_)))
    · exact hpost 0 _ _ hz (fun PY k => hY PY ⟨1, ql_t t a h1 k⟩)
    · refine ql_f 600 i (by omega) (st_all (nw := nw) (gn := gn) (bg := bg) (wd := wd) (nx := nx) (ny := ny) hZ h1 (fun e u' v' hst hex => ?_))
      have hY2 : ∀ (PY : Int32 → SY → Prop) (q : Nat), (match v' with | (yt₁, yo₁, yh₁, yi₁, ya₁, ye₁, yp₁, ys₁, yc₁, nw₁, gn₁, bg₁, wd₁, tk₁, tv₁, dg₁, sk₁, sv₁, vk₁, vv₁, hw₁, fr₁, og₁, lf₁, st₁, la₁, fm₁, fc₁, gr₁, wi₁, mn₁, qx₁, qy₁, ss₁, cl₁, cp₁, nx₁, ny₁) => wY_run_64 PY (wY_run_13 PY q) yt₁ yo₁ yh₁ yi₁ ya₁ ye₁ yp₁ ys₁ yc₁ nw₁ gn₁ bg₁ wd₁ tk₁ tv₁ dg₁ sk₁ sv₁ vk₁ vv₁ hw₁ fr₁ og₁ lf₁ st₁ la₁ fm₁ fc₁ gr₁ wi₁ mn₁ qx₁ qy₁ ss₁ cl₁ cp₁ nx₁ ny₁) → ∃ q, ZYR PY q vB := by
        intro PY q k
        refine hY PY ⟨q + 1, ql_f t a h1 (br_t rfl (qe_f i 600 (by omega) (nm_r (nI_1 i) (hex _ ?_))))⟩
        obtain ⟨yt₁, yo₁, yh₁, yi₁, ya₁, ye₁, yp₁, ys₁, yc₁, nw₁, gn₁, bg₁, wd₁, tk₁, tv₁, dg₁, sk₁, sv₁, vk₁, vv₁, hw₁, fr₁, og₁, lf₁, st₁, la₁, fm₁, fc₁, gr₁, wi₁, mn₁, qx₁, qy₁, ss₁, cl₁, cp₁, nx₁, ny₁⟩ := v'
        exact k
      rcases hst with ⟨rfl, hR2⟩ | ⟨he, hI, hE⟩
      · have nxt := ih (i + 1) u' v' (by omega) hR2 vB (fun PY hq => by
          obtain ⟨q, hq⟩ := hq
          refine hY2 PY q ?_
          obtain ⟨tc₁, ob₁, ps₁, su₁, ep₁, sd₁, bc₁, mA₁, mB₁, oX₁, oY₁, gY₁, wD₁, pC₁, sC₁, tk₁, tv₁, cb₁, sk₁, sv₁, vk₁, vv₁, bp₁, br₁, bh₁, bn₁, bs₁, bl₁, px₁, py₁, pm₁, cr₁, sn₁, sx₁, sy₁, sm₁, sp₁, dg₁⟩ := u'
          obtain ⟨yt₁, yo₁, yh₁, yi₁, ya₁, ye₁, yp₁, ys₁, yc₁, nw₁, gn₁, bg₁, wd₁, tk₁, tv₁, dg₁, sk₁, sv₁, vk₁, vv₁, hw₁, fr₁, og₁, lf₁, st₁, la₁, fm₁, fc₁, gr₁, wi₁, mn₁, qx₁, qy₁, ss₁, cl₁, cp₁, nx₁, ny₁⟩ := v'
          obtain ⟨t, h, n, a, c, _, ⟨f1, f2, f3, f4, f5, f6, _⟩, _⟩ := hR2
          exact br_t f6 hq) post hpost
        obtain ⟨tc₁, ob₁, ps₁, su₁, ep₁, sd₁, bc₁, mA₁, mB₁, oX₁, oY₁, gY₁, wD₁, pC₁, sC₁, tk₁, tv₁, cb₁, sk₁, sv₁, vk₁, vv₁, bp₁, br₁, bh₁, bn₁, bs₁, bl₁, px₁, py₁, pm₁, cr₁, sn₁, sx₁, sy₁, sm₁, sp₁, dg₁⟩ := u'
        exact br_t rfl (nm_r (nI_1 i) nxt)
      · obtain ⟨tc₁, ob₁, ps₁, su₁, ep₁, sd₁, bc₁, mA₁, mB₁, oX₁, oY₁, gY₁, wD₁, pC₁, sC₁, tk₁, tv₁, cb₁, sk₁, sv₁, vk₁, vv₁, bp₁, br₁, bh₁, bn₁, bs₁, bl₁, px₁, py₁, pm₁, cr₁, sn₁, sx₁, sy₁, sm₁, sp₁, dg₁⟩ := u'
        obtain ⟨yt₁, yo₁, yh₁, yi₁, ya₁, ye₁, yp₁, ys₁, yc₁, nw₁, gn₁, bg₁, wd₁, tk₁, tv₁, dg₁, sk₁, sv₁, vk₁, vv₁, hw₁, fr₁, og₁, lf₁, st₁, la₁, fm₁, fc₁, gr₁, wi₁, mn₁, qx₁, qy₁, ss₁, cl₁, cp₁, nx₁, ny₁⟩ := v'
        obtain ⟨g1, g2, g3, tt, g4⟩ := hE
        refine br_f he (nm_r (nI_1 i) (qs_f 600 (i + 1) (by omega) (br_f he ?_)))
        refine hpost e _ (yt₁, yo₁, yh₁, yi₁, ya₁, ye₁, nI a, ys₁, yc₁, nw₁, gn₁, bg₁, wd₁, tk₁, tv₁, dg₁, sk₁, sv₁, vk₁, vv₁, hw₁, fr₁, og₁, lf₁, st₁, la₁, fm₁, fc₁, gr₁, wi₁, mn₁, qx₁, qy₁, ss₁, cl₁, cp₁, nx₁, ny₁) ⟨hI, rfl⟩ (fun PY k => hY2 PY 1 ?_)
        subst g1 g2
        exact br_f he (br_c (fun _ => k) (fun _ => br_f he k))
theorem i_vc_run {k : Nat} {u : SX} {v : SY} (I : i_Rel k u v) (hk : k + 3 ≤ 1536) : wpX_run (fun r u' => wpY_run (fun r' v' => r' = r ∧ i_Rel (k + 3) u' v') v) u := by
  have I2 := I
  obtain ⟨tc, ob, ps, su, ep, sd, bc, mA, mB, oX, oY, gY, wD, pC, sC, tk, tv, cb, sk, sv, vk, vv, bp, br, bh, bn, bs, bl, px, py, pm, cr, sn, sx, sy, sm, sp, dg⟩ := u
  obtain ⟨yt, yo, yh, yi, ya, ye, yp, ys, yc, nw, gn, bg, wd, tk', tv', dg', sk', sv', vk', vv', hw, fr, og, lf, st, la, fm, fc, gr, wi, mn, qx, qy, ss, cl, cp, nx, ny⟩ := v
  obtain ⟨⟨t, o, h, ⟨rfl, rfl, rfl, h24⟩, ⟨rfl, rfl, rfl, rfl⟩, ⟨rfl, rfl, rfl, rfl, rfl, rfl, rfl⟩, hT, hP, hC⟩, hep⟩ := I
  have ho := tk_ob hT
  refine pk_le o 0 (fun h1 => ?_) (fun h1 => ql_f o 0 h1 ⟨rfl, I2⟩)
  have ho0 : o = 0 := by omega
  subst ho0
  have hR : ZRun 0 (nI t, nI 0, 0, 0, -1, 0, 0, 1, 0, 0, 0, 0, 2, 0, 0, tk', tv', cb, sk', sv', zf vk' 0 8 (fun _ => 0), zf vv' 0 8 (fun _ => 0), bp, br, bh, bn, bs, bl, px, py, pm, zf cr 0 24 (fun _ => 16777215), sn, sx, sy, sm, sp, dg') (nI t, 0, 0, 0, 0, 0, -1, 0, 0, nw, gn, bg, wd, tk', tv', dg', sk', sv', zf vk' 0 8 (fun _ => 0), zf vv' 0 8 (fun _ => 0), hw, fr, og, lf, st, la, zf fm 0 6 (fun k => if k = 0 ∨ k = 4 then 1 else 0), upd fc 0 1, upd gr 0 0, upd wi 0 2, upd mn 0 0, qx, qy, ss, cl, zf cp 0 576 (fun _ => 1), nx, ny) := by
    refine ⟨t, 0, 0, 0, 0, ⟨rfl, rfl, rfl, rfl, rfl, rfl, rfl, rfl⟩, ⟨rfl, rfl, rfl, rfl, rfl, rfl, rfl, rfl, rfl⟩, ⟨rfl, rfl, rfl, rfl, rfl, rfl, rfl⟩, hT, ⟨by omega, fun k hk => by omega⟩, fun k hk => Or.inl (zf_in (by omega) hk), ⟨by omega, fun k hk => by omega⟩, ⟨by omega, rfl⟩, ⟨⟨?_, ?_, ?_, ?_, ?_, ?_, ⟨by decide, by decide⟩, ⟨by decide, by decide⟩, 1, by omega, by omega, rfl, Or.inl ⟨rfl, rfl⟩⟩, rfl, rfl, rfl, ⟨0, rfl, zpt_0⟩, zcp_full⟩, by omega, fun k hk => by omega⟩
    · rw [zf_in (by omega) (by omega)]; rfl
    · rw [zf_in (by omega) (by omega)]; rfl
    · rw [zf_in (by omega) (by omega)]; rfl
    · rw [zf_in (by omega) (by omega)]; rfl
    · rw [zf_in (by omega) (by omega)]; rfl
    · rw [zf_in (by omega) (by omega)]; rfl
  have L : ∀ post : Int32 → SX → Prop, (∀ (r : Int32) (u' : SX) (v' : SY), ZI u' v' → (∀ PY : Int32 → SY → Prop, PY r v' → ∃ q, ZYR PY q (nI t, 0, 0, 0, 0, 0, -1, 0, 0, nw, gn, bg, wd, tk', tv', dg', sk', sv', zf vk' 0 8 (fun _ => 0), zf vv' 0 8 (fun _ => 0), hw, fr, og, lf, st, la, zf fm 0 6 (fun k => if k = 0 ∨ k = 4 then 1 else 0), upd fc 0 1, upd gr 0 0, upd wi 0 2, upd mn 0 0, qx, qy, ss, cl, zf cp 0 576 (fun _ => 1), nx, ny)) → post r u') → ZXR post (600 + 2) 0 (nI 0) (nI t, nI 0, 0, 0, -1, 0, 0, 1, 0, 0, 0, 0, 2, 0, 0, tk', tv', cb, sk', sv', zf vk' 0 8 (fun _ => 0), zf vv' 0 8 (fun _ => 0), bp, br, bh, bn, bs, bl, px, py, pm, zf cr 0 24 (fun _ => 16777215), sn, sx, sy, sm, sp, dg') := fun post hp => run_l 600 0 _ _ rfl hR _ (fun PY hq => hq) post hp
  obtain ⟨N, hN⟩ : ∃ N, N = 600 + 2 := ⟨_, rfl⟩
  rw [← hN] at L
  refine x_beginRun ⟨N, L _ (fun r u' v' hz hq => ?_)⟩
  refine ql_t 0 0 (by omega) (y_begin ?_)
  exact hq _ ⟨rfl, hz⟩
