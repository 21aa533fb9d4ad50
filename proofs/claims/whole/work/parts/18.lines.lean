section
variable {tc ob ps su ep sd bc mA mB oX oY gY wD pC sC yt yo yh yi ya ye yp ys yc nw gn bg wd : Int32} {tk tv cb sk sv vk vv bp br bh bn bs bl px py pm cr sn sx sy sm sp dg hw fr og lf st la fm fc gr wi mn qx qy ss cl cp nx ny : Nat → Int32}
theorem zof_sm {x y : Int32} (hx : Zsm x) (hy : Zsm y) : zof x.toInt64 y.toInt64 = 0 := by
  obtain ⟨a1, a2⟩ := hx
  obtain ⟨b1, b2⟩ := hy
  have m2 : (-200 : Int64).toInt = -200 := by decide
  have p2 : (200 : Int64).toInt = 200 := by decide
  unfold zof
  rw [if_neg (by rw [z64_lt, z64_i, m2]; omega), if_neg (by rw [z64_lt, z64_i, p2]; omega), if_neg (by rw [z64_lt, z64_i, m2]; omega), if_pos (by rw [z64_le, z64_i, p2]; omega)]
theorem x_mv27 {post : Int32 → SX → Prop} {x y : Int64} {m : Nat} (hm : m ≤ 48) (k7 : m = 48 → post 7 (tc, ob, ps, su, ep, sd, bc, mA, mB, oX, oY, gY, wD, pC, sC, tk, tv, cb, sk, sv, vk, vv, bp, br, bh, bn, bs, bl, px, py, pm, cr, sn, sx, sy, sm, sp, dg)) (k5 : m < 48 → zof x y ≠ 0 → post 5 (tc, ob, ps, su, ep, sd, bc, mA, mB, oX, oY, gY, wD, pC, sC, tk, tv, cb, sk, sv, vk, vv, bp, br, bh, bn, bs, bl, px, py, pm, cr, sn, sx, sy, sm, sp, dg)) (k0 : m < 48 → zof x y = 0 → post 0 (tc, ob, ps, su, ep, sd, bc, mA, mB, oX, oY, gY, wD, nI (m + 1), sC, tk, tv, cb, sk, sv, vk, vv, bp, br, bh, bn, bs, bl, upd px m x.toInt32, upd py m y.toInt32, upd pm m 1, cr, sn, sx, sy, sm, sp, dg)) : wX_moveTo_27 post x y (nI m) tc ob ps su ep sd bc mA mB oX oY gY wD pC sC tk tv cb sk sv vk vv bp br bh bn bs bl px py pm cr sn sx sy sm sp dg := by
  refine pk_lt m 48 (fun h1 => x_off ?_) (fun h1 => k7 (by omega))
  exact br_c (fun q => x_append rfl h1 (k0 h1 q)) (fun q => k5 h1 q)
theorem st_moveto {t h n a c s pc : Nat} {PX : Int32 → SX → Prop} (hR : ZR t h n a c mA mB oX oY gY wD pC tk tv cb sk sv vk vv bp br bh bn bs bl px py pm cr sn sx sy sm sp hw fr og lf st la fm fc gr wi mn qx qy ss cl cp) (ha : a < t) (hk : tk a = 1) (hv : tv a = nI 29) (hpc : pC = nI pc) (hp48 : pc ≤ 48) (hE : ZE1 29 h sk pc = 0)
    (H : ∀ (e : Int32) (u' : SX) (v' : SY), ZStep a (s + 1) e u' v' → (∀ PY : SY → Prop, PY v' → wpY_execute PY (nI t, 0, nI h, nI n, nI a, 0, -1, nI (s + 1), nI c, nw, gn, bg, wd, tk, tv, dg, sk, sv, vk, vv, hw, fr, og, lf, st, la, fm, fc, gr, wi, mn, qx, qy, ss, cl, cp, nx, ny)) → PX e u') : wpX_execute PX (nI t, 0, nI a, nI s, -1, nI h, nI n, mA, mB, oX, oY, gY, wD, pC, nI c, tk, tv, cb, sk, sv, vk, vv, bp, br, bh, bn, bs, bl, px, py, pm, cr, sn, sx, sy, sm, sp, dg) (nI a) := by
  have hR' := hR
  obtain ⟨hT, hS, hV, hF, hPO, hG, hSV⟩ := hR
  have ht := hT.1
  have hh := hS.1
  have hmn := zg_mn hG hpc
  have hi : vp_in (nI a) 100 := vp_in_nI (by omega) (by omega)
  have e : (nI a).toNatClampNeg = a := zc_i (by omega)
  have ek : tk (nI a).toNatClampNeg = 1 := by rw [e]; exact hk
  have ev : tv (nI a).toNatClampNeg = nI 29 := by rw [e]; exact hv
  have hpn := po_next hPO ha (by rw [hk]; decide) (by rw [hk]; decide)
  obtain ⟨z1, z2, z3, z4⟩ := ze_0 hE
  have z1 : 2 ≤ h := z1
  have hP := zg_pt hG hpc hp48
  have fin : ∀ (post : Int32 → SX → Prop) (hpost : ∀ (r : Int32) (u : SX), (match u with | (tc₁, ob₁, ps₁, su₁, ep₁, sd₁, bc₁, mA₁, mB₁, oX₁, oY₁, gY₁, wD₁, pC₁, sC₁, tk₁, tv₁, cb₁, sk₁, sv₁, vk₁, vv₁, bp₁, br₁, bh₁, bn₁, bs₁, bl₁, px₁, py₁, pm₁, cr₁, sn₁, sx₁, sy₁, sm₁, sp₁, dg₁) => wX_execute_153 PX (nI 29) r tc₁ ob₁ ps₁ su₁ ep₁ sd₁ bc₁ mA₁ mB₁ oX₁ oY₁ gY₁ wD₁ pC₁ sC₁ tk₁ tv₁ cb₁ sk₁ sv₁ vk₁ vv₁ bp₁ br₁ bh₁ bn₁ bs₁ bl₁ px₁ py₁ pm₁ cr₁ sn₁ sx₁ sy₁ sm₁ sp₁ dg₁) → post r u) (m g : Nat) (UX VX : Int64), g ≤ pc → m = pc - g → (∀ Q : Int32 → SY → Prop, wY_check_129 Q (nI 29) (nI 2) (nI t) 0 (nI h) (nI n) (nI a) 0 (-1) (nI (s + 1)) (nI c) (nI (0 + 1)) (nI g) 1 (0 ||| zof UX VX) tk tv dg sk sv vk vv hw fr og lf st la fm fc gr wi mn qx qy ss cl cp (upd nx 0 UX.toInt32) (upd ny 0 VX.toInt32) → wY_check_87 Q (nI 29) (nI (ztk 29)) (nI t) 0 (nI h) (nI n) (nI a) 0 (-1) (nI (s + 1)) (nI c) nw gn bg wd tk tv dg sk sv vk vv hw fr og lf st la fm fc gr wi mn qx qy ss cl cp nx ny) → wX_moveTo_27 post UX VX (nI m) (nI t) 0 (nI (a + 1)) (nI (s + 1)) (-1) (nI h) (nI n) mA mB oX oY gY wD pC (nI c) tk tv cb sk sv vk vv bp br bh bn bs bl px py pm cr sn sx sy sm sp dg := by
    intro post hpost m g UX VX hgp hmg hY
    refine x_mv27 (by omega) (fun e => ?_) (fun hm e => ?_) (fun hm e => ?_)
    · refine hpost 7 _ (x_153e (by decide) (H 7 _ (nI t, 0, nI h, nI n, nI a, 7, -1, nI (s + 1), nI c, nI (0 + 1), nI g, 1, 0 ||| zof UX VX, tk, tv, dg, sk, sv, vk, vv, hw, fr, og, lf, st, la, fm, fc, gr, wi, mn, qx, qy, ss, cl, cp, upd nx 0 UX.toInt32, upd ny 0 VX.toInt32) (zs_er hR' (by decide)) (fun PY hp => ?_)))
      refine ⟨hi, nm_r ev ⟨hi, nm_r ek (br_f (by decide) (br_f (by decide) (br_f (by decide) (br_t rfl ?_))))⟩⟩
      unfold wY_execute_245 wpY_operate
      refine y_check (by decide) hh hp48 (zst_k hS) rfl hmn (fun z => absurd hE z) (fun _ z => absurd z (by decide)) (fun _ _ _ => hY _ (y_ckP rfl hh z1 hmn hp48 rfl hgp rfl (by omega) (by decide) (by decide) (by decide) (by decide) (by decide) (by decide) (by decide) (by decide) (by decide) (by decide) (by decide) (by decide) (by decide) (fun _ => br_f (by decide) hp) (fun z => by omega) (fun z => by omega)))
    · refine hpost 5 _ (x_153e (by decide) (H 5 _ (nI t, 0, nI h, nI n, nI a, 5, -1, nI (s + 1), nI c, nI (0 + 1), nI g, 1, 0 ||| zof UX VX, tk, tv, dg, sk, sv, vk, vv, hw, fr, og, lf, st, la, fm, fc, gr, wi, mn, qx, qy, ss, cl, cp, upd nx 0 UX.toInt32, upd ny 0 VX.toInt32) (zs_er hR' (by decide)) (fun PY hp => ?_)))
      refine ⟨hi, nm_r ev ⟨hi, nm_r ek (br_f (by decide) (br_f (by decide) (br_f (by decide) (br_t rfl ?_))))⟩⟩
      unfold wY_execute_245 wpY_operate
      refine y_check (by decide) hh hp48 (zst_k hS) rfl hmn (fun z => absurd hE z) (fun _ z => absurd z (by decide)) (fun _ _ _ => hY _ (y_ckP rfl hh z1 hmn hp48 rfl hgp rfl (by omega) (by decide) (by decide) (by decide) (by decide) (by decide) (by decide) (by decide) (by decide) (by decide) (by decide) (by decide) (by decide) (by decide) (fun z => by omega) (fun _ _ => br_f (by decide) hp) (fun _ z => absurd (by rw [zor_0] at z; exact z) e)))
    · have hb := zof_0 e
      refine hpost 0 _ (x_153 (n := 2) (by decide) rfl z1 rfl (H 0 _ (nI t, 0, nI (h - 2), nI n, nI a + 1, 0, -1, nI (s + 1), nI c, nI (0 + 1), nI g, 1, 0 ||| zof UX VX, tk, tv, dg, sk, sv, vk, vv, hw, fr, og, lf, st, la, fm, fc, gr, wi, upd mn 0 (nI (m + 1)), zf qx m (m + 1) (fun i => (upd nx 0 UX.toInt32) (i - m)), zf qy m (m + 1) (fun i => (upd ny 0 VX.toInt32) (i - m)), zf ss m (m + 1) (fun i => if (1 : Int32) ≠ 0 ∧ i = m then 1 else 0), zf cl m (m + 1) (fun _ => 0), cp, upd nx 0 UX.toInt32, upd ny 0 VX.toInt32) (zs_ok ⟨hT, zst_le hS (by omega), hV, hF, hpn, zgs_path (q := m + 1) hG (zpt_extB (zpt_cut hP (by omega)) (by omega) (by omega) (fun k hk => ⟨pk_un (by omega), pk_un (by omega), pk_un (by omega), zf_lo hk, zf_lo hk, zf_lo hk, zf_lo hk⟩) (fun k h1 h2 => ?_) ?_ pk_us (fun k h1 h2 => by omega)), zsv_up hSV zr_i zr_i zr_i zr_i zr_u (fun i hi => zf_hi (by omega)) (fun i hi => zf_hi (by omega)) (fun i hi => zf_hi (by omega)) (fun i hi => zf_hi (by omega)) zr_i⟩ rfl (nI_1 a) rfl rfl rfl rfl rfl rfl) (fun PY hp => ?_)))
      · have ek : k = m := by omega
        subst ek
        rw [zf_in (by omega) (by omega), zf_in (by omega) (by omega), zf_in (by omega) (by omega), Nat.sub_self, pk_us, pk_us, pk_us, pk_us]
        exact ⟨rfl, rfl, rfl, hb.1, hb.2⟩
      · rw [zf_in (by omega) (by omega), if_pos ⟨by decide, rfl⟩]
      · refine ⟨hi, nm_r ev ⟨hi, nm_r ek (br_f (by decide) (br_f (by decide) (br_f (by decide) (br_t rfl ?_))))⟩⟩
        unfold wY_execute_245 wpY_operate
        refine y_check (by decide) hh hp48 (zst_k hS) rfl hmn (fun z => absurd hE z) (fun _ z => absurd z (by decide)) (fun _ _ _ => hY _ (y_ckP rfl hh z1 hmn hp48 rfl hgp rfl (by omega) (by decide) (by decide) (by decide) (by decide) (by decide) (by decide) (by decide) (by decide) (by decide) (by decide) (by decide) (by decide) (by decide) (fun z => by omega) (fun _ z => absurd (by rw [zor_0]; exact e) z) (fun _ _ => br_t rfl ?_)))
        refine br_t (by decide) (br_t (by decide) (br_t (by decide) (br_t (by decide) (?_))))
        unfold wY_operate_71
        exact y_path (m := m) (q := 1) (n := 2) (by decide) (by decide) rfl z1 rfl (by omega) (by omega) (Or.inr rfl) (by decide) rfl rfl hmn hgp hmg hp48 (fun z => absurd z (by decide)) (fun _ => br_f (by decide) (nm_e hp))
  refine nm_r (nI_1 s) (nm_r (nI_1 a) ⟨hi, br_t ek ⟨hi, nm_r ev (x_oe0 (by decide) hh hp48 rfl hpc hE (br_t rfl (br_t (by decide) (br_f (by decide) (br_f (by decide) (br_f (by decide) (br_t (by decide) (br_f (by decide) (br_f (by decide) (br_f (by decide) (br_t (by decide) (?_))))))))))))⟩⟩)
  unfold wX_execute_139 wpX_changePath
  refine x_opDX (j := 0) rfl rfl hh (by omega) (x_opDY (j := 0) rfl rfl hh (by omega) ?_)
  refine br_f (by decide) (br_f (by decide) (br_f (by decide) (br_f (by decide) (br_t rfl (?_)))))
  unfold wX_changePath_104 wpX_moveTo
  subst hpc
  by_cases hp0 : pc = 0
  · subst hp0
    refine ql_t 0 0 (by omega) (fin _ (fun r u k => by obtain ⟨tc₁, ob₁, ps₁, su₁, ep₁, sd₁, bc₁, mA₁, mB₁, oX₁, oY₁, gY₁, wD₁, pC₁, sC₁, tk₁, tv₁, cb₁, sk₁, sv₁, vk₁, vv₁, bp₁, br₁, bh₁, bn₁, bs₁, bl₁, px₁, py₁, pm₁, cr₁, sn₁, sx₁, sy₁, sm₁, sp₁, dg₁⟩ := u; exact k) 0 0 (ZDX mA mB oX (sv (h - 1 - 1)).toInt64 (sv (h - 1 - 0)).toInt64) (ZDX mA mB oY (sv (h - 1 - 0)).toInt64 (-(sv (h - 1 - 1)).toInt64)) (by omega) (by omega) (fun Q k => ?_))
    refine br_f (by decide) (br_f (by decide) (br_f (by decide) (br_t (by decide) (br_t (by rw [hmn]; decide) (br_t hmn (br_t rfl (br_f (by decide) (br_f (by decide) (br_f (by decide) ⟨rfl, rfl, br_f (by decide) (br_t (by rw [hmn]; decide) (br_f (by decide) ?_))⟩)))))))))
    exact y_329n (q := 0) (by decide) hG.1 rfl hh z1 rfl (by omega) (Or.inl rfl) (br_f (by decide) k)
  · obtain ⟨p, rfl⟩ : ∃ p, pc = p + 1 := ⟨pc - 1, by omega⟩
    have hl := zft_le ss p
    have h0 := hP.2.1 (by omega)
    obtain ⟨b1, b2, b3, b4, b5, b6, b7⟩ := hP.2.2 p (by omega)
    have hzf : Zft ss p = p ↔ ss p ≠ 0 := ⟨fun z => by have := zft_ne h0 p; rw [z] at this; exact this, zft_s⟩
    have hcu : Zcu ss cl p ≤ p := zcu_le
    obtain ⟨d1, d2, d3, d4, d5, d6, d7⟩ := hP.2.2 (Zcu ss cl p) (by omega)
    have ecu : (nI (Zcu ss cl p)).toNatClampNeg = Zcu ss cl p := zc_i (by omega)
    have icu : vp_in (nI (Zcu ss cl p)) 48 := vp_in_nI (by omega) (by omega)
    have hYp : ∀ (g : Nat), (ss p ≠ 0 ∧ cl (Zft ss p) = 0 → g = 1) → (¬ (ss p ≠ 0 ∧ cl (Zft ss p) = 0) → g = 0) → ∀ Q : Int32 → SY → Prop, wY_check_129 Q (nI 29) (nI 2) (nI t) 0 (nI h) (nI n) (nI a) 0 (-1) (nI (s + 1)) (nI c) (nI (0 + 1)) (nI g) 1 (0 ||| zof (ZDX mA mB oX (sv (h - 1 - 1)).toInt64 (sv (h - 1 - 0)).toInt64) (ZDX mA mB oY (sv (h - 1 - 0)).toInt64 (-(sv (h - 1 - 1)).toInt64))) tk tv dg sk sv vk vv hw fr og lf st la fm fc gr wi mn qx qy ss cl cp (upd nx 0 (ZDX mA mB oX (sv (h - 1 - 1)).toInt64 (sv (h - 1 - 0)).toInt64).toInt32) (upd ny 0 (ZDX mA mB oY (sv (h - 1 - 0)).toInt64 (-(sv (h - 1 - 1)).toInt64)).toInt32) → wY_check_87 Q (nI 29) (nI (ztk 29)) (nI t) 0 (nI h) (nI n) (nI a) 0 (-1) (nI (s + 1)) (nI c) nw gn bg wd tk tv dg sk sv vk vv hw fr og lf st la fm fc gr wi mn qx qy ss cl cp nx ny := by
      intro g hg1 hg0 Q k
      have k2 : ∀ g', g' = g → wY_planAll_297 (fun u => match u with | (yt₁, yo₁, yh₁, yi₁, ya₁, ye₁, yp₁, ys₁, yc₁, nw₁, gn₁, bg₁, wd₁, tk₁, tv₁, dg₁, sk₁, sv₁, vk₁, vv₁, hw₁, fr₁, og₁, lf₁, st₁, la₁, fm₁, fc₁, gr₁, wi₁, mn₁, qx₁, qy₁, ss₁, cl₁, cp₁, nx₁, ny₁) => (nI 29 = 33 → ((wd₁ = 0 → wY_check_129 Q (nI 29) (nI (ztk 29)) yt₁ yo₁ yh₁ yi₁ ya₁ ye₁ yp₁ ys₁ yc₁ nw₁ gn₁ bg₁ wd₁ tk₁ tv₁ dg₁ sk₁ sv₁ vk₁ vv₁ hw₁ fr₁ og₁ lf₁ st₁ la₁ fm₁ fc₁ gr₁ wi₁ mn₁ qx₁ qy₁ ss₁ cl₁ cp₁ nx₁ ny₁) ∧ (¬ wd₁ = 0 → ((bg₁ = 0 → wY_check_125 Q (nI 29) (nI (ztk 29)) 8 (mn₁ 0) yt₁ yo₁ yh₁ yi₁ ya₁ ye₁ yp₁ ys₁ yc₁ nw₁ gn₁ bg₁ wd₁ tk₁ tv₁ dg₁ sk₁ sv₁ vk₁ vv₁ hw₁ fr₁ og₁ lf₁ st₁ la₁ fm₁ fc₁ gr₁ wi₁ mn₁ qx₁ qy₁ ss₁ cl₁ cp₁ nx₁ ny₁) ∧ (¬ bg₁ = 0 → wY_check_125 Q (nI 29) (nI (ztk 29)) 9 (mn₁ 0) yt₁ yo₁ yh₁ yi₁ ya₁ ye₁ yp₁ ys₁ yc₁ nw₁ gn₁ bg₁ wd₁ tk₁ tv₁ dg₁ sk₁ sv₁ vk₁ vv₁ hw₁ fr₁ og₁ lf₁ st₁ la₁ fm₁ fc₁ gr₁ wi₁ mn₁ qx₁ qy₁ ss₁ cl₁ cp₁ nx₁ ny₁))))) ∧ (¬ nI 29 = 33 → wY_check_129 Q (nI 29) (nI (ztk 29)) yt₁ yo₁ yh₁ yi₁ ya₁ ye₁ yp₁ ys₁ yc₁ nw₁ gn₁ bg₁ wd₁ tk₁ tv₁ dg₁ sk₁ sv₁ vk₁ vv₁ hw₁ fr₁ og₁ lf₁ st₁ la₁ fm₁ fc₁ gr₁ wi₁ mn₁ qx₁ qy₁ ss₁ cl₁ cp₁ nx₁ ny₁)) (nI 29) (nI (Zft ss p)) (nI (Zcu ss cl p)) 1 0 (nI t) 0 (nI h) (nI n) (nI a) 0 (-1) (nI (s + 1)) (nI c) 0 (nI g') 1 0 tk tv dg sk sv vk vv hw fr og lf st la fm fc gr wi mn qx qy ss cl cp nx ny := by
        intro g' hg'
        subst hg'
        exact br_f (by decide) (y_329n (q := 0) (by decide) hG.1 rfl hh z1 rfl (by omega) (Or.inl rfl) (br_f (by decide) k))
      refine br_f (by decide) (br_f (by decide) (y_pl134 (by decide) (by decide) h0 hmn (by omega) ?_))
      refine br_t rfl (br_f (by decide) (br_f (by decide) (?_)))
      refine br_f (by decide) ⟨rfl, rfl, br_f (by decide) (br_f (by rw [hmn]; exact nI_ge (a := 0) (by omega) (by omega)) ?_)⟩
      rw [hmn, nI_pred]
      refine pk_eq (Zft ss p) p (fun q1 => ⟨vp_in_nI (by omega) (by omega), ?_⟩) (fun q1 => k2 0 (hg0 (fun z => q1 (hzf.mpr z.1))).symm)
      rw [zc_i (by omega)]
      exact br_c (fun q2 => k2 1 (hg1 ⟨hzf.mp q1, q2⟩).symm) (fun q2 => k2 0 (hg0 (fun z => q2 z.2)).symm)
    refine ql_f (p + 1) 0 (by omega) ⟨by rw [nI_pred]; exact vp_in_nI (by omega) (by omega), ?_⟩
    rw [nI_pred, zc_i (n := p) (by omega), b5]
    refine br_c (fun q => ?_) (fun q => ?_)
    · have q' := zmk_e.mp q
      exact nm_r (pk_m1 p) (fin _ (fun r u k => by obtain ⟨tc₁, ob₁, ps₁, su₁, ep₁, sd₁, bc₁, mA₁, mB₁, oX₁, oY₁, gY₁, wD₁, pC₁, sC₁, tk₁, tv₁, cb₁, sk₁, sv₁, vk₁, vv₁, bp₁, br₁, bh₁, bn₁, bs₁, bl₁, px₁, py₁, pm₁, cr₁, sn₁, sx₁, sy₁, sm₁, sp₁, dg₁⟩ := u; exact k) p 1 (ZDX mA mB oX (sv (h - 1 - 1)).toInt64 (sv (h - 1 - 0)).toInt64) (ZDX mA mB oY (sv (h - 1 - 0)).toInt64 (-(sv (h - 1 - 1)).toInt64)) (by omega) (by omega) (hYp 1 (fun _ => rfl) (fun z => absurd q' z)))
    · have q' : ¬ (ss p ≠ 0 ∧ cl (Zft ss p) = 0) := fun z => q (zmk_e.mpr z)
      exact fin _ (fun r u k => by obtain ⟨tc₁, ob₁, ps₁, su₁, ep₁, sd₁, bc₁, mA₁, mB₁, oX₁, oY₁, gY₁, wD₁, pC₁, sC₁, tk₁, tv₁, cb₁, sk₁, sv₁, vk₁, vv₁, bp₁, br₁, bh₁, bn₁, bs₁, bl₁, px₁, py₁, pm₁, cr₁, sn₁, sx₁, sy₁, sm₁, sp₁, dg₁⟩ := u; exact k) (p + 1) 0 (ZDX mA mB oX (sv (h - 1 - 1)).toInt64 (sv (h - 1 - 0)).toInt64) (ZDX mA mB oY (sv (h - 1 - 0)).toInt64 (-(sv (h - 1 - 1)).toInt64)) (by omega) (by omega) (hYp 0 (fun z => absurd z q') (fun _ => rfl))
theorem st_rmoveto {t h n a c s pc : Nat} {PX : Int32 → SX → Prop} (hR : ZR t h n a c mA mB oX oY gY wD pC tk tv cb sk sv vk vv bp br bh bn bs bl px py pm cr sn sx sy sm sp hw fr og lf st la fm fc gr wi mn qx qy ss cl cp) (ha : a < t) (hk : tk a = 1) (hv : tv a = nI 31) (hpc : pC = nI pc) (hp48 : pc ≤ 48) (hE : ZE1 31 h sk pc = 0)
    (H : ∀ (e : Int32) (u' : SX) (v' : SY), ZStep a (s + 1) e u' v' → (∀ PY : SY → Prop, PY v' → wpY_execute PY (nI t, 0, nI h, nI n, nI a, 0, -1, nI (s + 1), nI c, nw, gn, bg, wd, tk, tv, dg, sk, sv, vk, vv, hw, fr, og, lf, st, la, fm, fc, gr, wi, mn, qx, qy, ss, cl, cp, nx, ny)) → PX e u') : wpX_execute PX (nI t, 0, nI a, nI s, -1, nI h, nI n, mA, mB, oX, oY, gY, wD, pC, nI c, tk, tv, cb, sk, sv, vk, vv, bp, br, bh, bn, bs, bl, px, py, pm, cr, sn, sx, sy, sm, sp, dg) (nI a) := by
  have hR' := hR
  obtain ⟨hT, hS, hV, hF, hPO, hG, hSV⟩ := hR
  have ht := hT.1
  have hh := hS.1
  have hmn := zg_mn hG hpc
  have hi : vp_in (nI a) 100 := vp_in_nI (by omega) (by omega)
  have e : (nI a).toNatClampNeg = a := zc_i (by omega)
  have ek : tk (nI a).toNatClampNeg = 1 := by rw [e]; exact hk
  have ev : tv (nI a).toNatClampNeg = nI 31 := by rw [e]; exact hv
  have hpn := po_next hPO ha (by rw [hk]; decide) (by rw [hk]; decide)
  obtain ⟨z1, z2, z3, z4⟩ := ze_0 hE
  have z1 : 2 ≤ h := z1
  have hP := zg_pt hG hpc hp48
  have fin : ∀ (post : Int32 → SX → Prop) (hpost : ∀ (r : Int32) (u : SX), (match u with | (tc₁, ob₁, ps₁, su₁, ep₁, sd₁, bc₁, mA₁, mB₁, oX₁, oY₁, gY₁, wD₁, pC₁, sC₁, tk₁, tv₁, cb₁, sk₁, sv₁, vk₁, vv₁, bp₁, br₁, bh₁, bn₁, bs₁, bl₁, px₁, py₁, pm₁, cr₁, sn₁, sx₁, sy₁, sm₁, sp₁, dg₁) => wX_execute_153 PX (nI 31) r tc₁ ob₁ ps₁ su₁ ep₁ sd₁ bc₁ mA₁ mB₁ oX₁ oY₁ gY₁ wD₁ pC₁ sC₁ tk₁ tv₁ cb₁ sk₁ sv₁ vk₁ vv₁ bp₁ br₁ bh₁ bn₁ bs₁ bl₁ px₁ py₁ pm₁ cr₁ sn₁ sx₁ sy₁ sm₁ sp₁ dg₁) → post r u) (m g : Nat) (UX VX : Int64), g ≤ pc → m = pc - g → (∀ Q : Int32 → SY → Prop, wY_check_129 Q (nI 31) (nI 2) (nI t) 0 (nI h) (nI n) (nI a) 0 (-1) (nI (s + 1)) (nI c) (nI (0 + 1)) (nI g) 1 (0 ||| zof UX VX) tk tv dg sk sv vk vv hw fr og lf st la fm fc gr wi mn qx qy ss cl cp (upd nx 0 UX.toInt32) (upd ny 0 VX.toInt32) → wY_check_87 Q (nI 31) (nI (ztk 31)) (nI t) 0 (nI h) (nI n) (nI a) 0 (-1) (nI (s + 1)) (nI c) nw gn bg wd tk tv dg sk sv vk vv hw fr og lf st la fm fc gr wi mn qx qy ss cl cp nx ny) → wX_moveTo_27 post UX VX (nI m) (nI t) 0 (nI (a + 1)) (nI (s + 1)) (-1) (nI h) (nI n) mA mB oX oY gY wD pC (nI c) tk tv cb sk sv vk vv bp br bh bn bs bl px py pm cr sn sx sy sm sp dg := by
    intro post hpost m g UX VX hgp hmg hY
    refine x_mv27 (by omega) (fun e => ?_) (fun hm e => ?_) (fun hm e => ?_)
    · refine hpost 7 _ (x_153e (by decide) (H 7 _ (nI t, 0, nI h, nI n, nI a, 7, -1, nI (s + 1), nI c, nI (0 + 1), nI g, 1, 0 ||| zof UX VX, tk, tv, dg, sk, sv, vk, vv, hw, fr, og, lf, st, la, fm, fc, gr, wi, mn, qx, qy, ss, cl, cp, upd nx 0 UX.toInt32, upd ny 0 VX.toInt32) (zs_er hR' (by decide)) (fun PY hp => ?_)))
      refine ⟨hi, nm_r ev ⟨hi, nm_r ek (br_f (by decide) (br_f (by decide) (br_f (by decide) (br_t rfl ?_))))⟩⟩
      unfold wY_execute_245 wpY_operate
      refine y_check (by decide) hh hp48 (zst_k hS) rfl hmn (fun z => absurd hE z) (fun _ z => absurd z (by decide)) (fun _ _ _ => hY _ (y_ckP rfl hh z1 hmn hp48 rfl hgp rfl (by omega) (by decide) (by decide) (by decide) (by decide) (by decide) (by decide) (by decide) (by decide) (by decide) (by decide) (by decide) (by decide) (by decide) (fun _ => br_f (by decide) hp) (fun z => by omega) (fun z => by omega)))
    · refine hpost 5 _ (x_153e (by decide) (H 5 _ (nI t, 0, nI h, nI n, nI a, 5, -1, nI (s + 1), nI c, nI (0 + 1), nI g, 1, 0 ||| zof UX VX, tk, tv, dg, sk, sv, vk, vv, hw, fr, og, lf, st, la, fm, fc, gr, wi, mn, qx, qy, ss, cl, cp, upd nx 0 UX.toInt32, upd ny 0 VX.toInt32) (zs_er hR' (by decide)) (fun PY hp => ?_)))
      refine ⟨hi, nm_r ev ⟨hi, nm_r ek (br_f (by decide) (br_f (by decide) (br_f (by decide) (br_t rfl ?_))))⟩⟩
      unfold wY_execute_245 wpY_operate
      refine y_check (by decide) hh hp48 (zst_k hS) rfl hmn (fun z => absurd hE z) (fun _ z => absurd z (by decide)) (fun _ _ _ => hY _ (y_ckP rfl hh z1 hmn hp48 rfl hgp rfl (by omega) (by decide) (by decide) (by decide) (by decide) (by decide) (by decide) (by decide) (by decide) (by decide) (by decide) (by decide) (by decide) (by decide) (fun z => by omega) (fun _ _ => br_f (by decide) hp) (fun _ z => absurd (by rw [zor_0] at z; exact z) e)))
    · have hb := zof_0 e
      refine hpost 0 _ (x_153 (n := 2) (by decide) rfl z1 rfl (H 0 _ (nI t, 0, nI (h - 2), nI n, nI a + 1, 0, -1, nI (s + 1), nI c, nI (0 + 1), nI g, 1, 0 ||| zof UX VX, tk, tv, dg, sk, sv, vk, vv, hw, fr, og, lf, st, la, fm, fc, gr, wi, upd mn 0 (nI (m + 1)), zf qx m (m + 1) (fun i => (upd nx 0 UX.toInt32) (i - m)), zf qy m (m + 1) (fun i => (upd ny 0 VX.toInt32) (i - m)), zf ss m (m + 1) (fun i => if (1 : Int32) ≠ 0 ∧ i = m then 1 else 0), zf cl m (m + 1) (fun _ => 0), cp, upd nx 0 UX.toInt32, upd ny 0 VX.toInt32) (zs_ok ⟨hT, zst_le hS (by omega), hV, hF, hpn, zgs_path (q := m + 1) hG (zpt_extB (zpt_cut hP (by omega)) (by omega) (by omega) (fun k hk => ⟨pk_un (by omega), pk_un (by omega), pk_un (by omega), zf_lo hk, zf_lo hk, zf_lo hk, zf_lo hk⟩) (fun k h1 h2 => ?_) ?_ pk_us (fun k h1 h2 => by omega)), zsv_up hSV zr_i zr_i zr_i zr_i zr_u (fun i hi => zf_hi (by omega)) (fun i hi => zf_hi (by omega)) (fun i hi => zf_hi (by omega)) (fun i hi => zf_hi (by omega)) zr_i⟩ rfl (nI_1 a) rfl rfl rfl rfl rfl rfl) (fun PY hp => ?_)))
      · have ek : k = m := by omega
        subst ek
        rw [zf_in (by omega) (by omega), zf_in (by omega) (by omega), zf_in (by omega) (by omega), Nat.sub_self, pk_us, pk_us, pk_us, pk_us]
        exact ⟨rfl, rfl, rfl, hb.1, hb.2⟩
      · rw [zf_in (by omega) (by omega), if_pos ⟨by decide, rfl⟩]
      · refine ⟨hi, nm_r ev ⟨hi, nm_r ek (br_f (by decide) (br_f (by decide) (br_f (by decide) (br_t rfl ?_))))⟩⟩
        unfold wY_execute_245 wpY_operate
        refine y_check (by decide) hh hp48 (zst_k hS) rfl hmn (fun z => absurd hE z) (fun _ z => absurd z (by decide)) (fun _ _ _ => hY _ (y_ckP rfl hh z1 hmn hp48 rfl hgp rfl (by omega) (by decide) (by decide) (by decide) (by decide) (by decide) (by decide) (by decide) (by decide) (by decide) (by decide) (by decide) (by decide) (by decide) (fun z => by omega) (fun _ z => absurd (by rw [zor_0]; exact e) z) (fun _ _ => br_t rfl ?_)))
        refine br_t (by decide) (br_t (by decide) (br_t (by decide) (br_t (by decide) (?_))))
        unfold wY_operate_71
        exact y_path (m := m) (q := 1) (n := 2) (by decide) (by decide) rfl z1 rfl (by omega) (by omega) (Or.inr rfl) (by decide) rfl rfl hmn hgp hmg hp48 (fun z => absurd z (by decide)) (fun _ => br_f (by decide) (nm_e hp))
  refine nm_r (nI_1 s) (nm_r (nI_1 a) ⟨hi, br_t ek ⟨hi, nm_r ev (x_oe0 (by decide) hh hp48 rfl hpc hE (br_t rfl (br_t (by decide) (br_f (by decide) (br_f (by decide) (br_f (by decide) (br_t (by decide) (br_f (by decide) (br_f (by decide) (br_f (by decide) (br_t (by decide) (?_))))))))))))⟩⟩)
  unfold wX_execute_139 wpX_changePath
  refine x_opDX (j := 0) rfl rfl hh (by omega) (x_opDY (j := 0) rfl rfl hh (by omega) ?_)
  have hpc0 : 0 < pc := z3 (by decide) (by decide)
  obtain ⟨p, rfl⟩ : ∃ p, pc = p + 1 := ⟨pc - 1, by omega⟩
  have hl := zft_le ss p
  have h0 := hP.2.1 (by omega)
  obtain ⟨b1, b2, b3, b4, b5, b6, b7⟩ := hP.2.2 p (by omega)
  have hzf : Zft ss p = p ↔ ss p ≠ 0 := ⟨fun z => by have := zft_ne h0 p; rw [z] at this; exact this, zft_s⟩
  have hcu : Zcu ss cl p ≤ p := zcu_le
  obtain ⟨d1, d2, d3, d4, d5, d6, d7⟩ := hP.2.2 (Zcu ss cl p) (by omega)
  have ecu : (nI (Zcu ss cl p)).toNatClampNeg = Zcu ss cl p := zc_i (by omega)
  have icu : vp_in (nI (Zcu ss cl p)) 48 := vp_in_nI (by omega) (by omega)
  have hYp : ∀ (g : Nat), (ss p ≠ 0 ∧ cl (Zft ss p) = 0 → g = 1) → (¬ (ss p ≠ 0 ∧ cl (Zft ss p) = 0) → g = 0) → ∀ Q : Int32 → SY → Prop, wY_check_129 Q (nI 31) (nI 2) (nI t) 0 (nI h) (nI n) (nI a) 0 (-1) (nI (s + 1)) (nI c) (nI (0 + 1)) (nI g) 1 (0 ||| zof (ZDX mA mB oX (sv (h - 1 - 1)).toInt64 (sv (h - 1 - 0)).toInt64 + (px (Zcu ss cl p) - oX).toInt64) (ZDX mA mB oY (sv (h - 1 - 0)).toInt64 (-(sv (h - 1 - 1)).toInt64) + (py (Zcu ss cl p) - oY).toInt64)) tk tv dg sk sv vk vv hw fr og lf st la fm fc gr wi mn qx qy ss cl cp (upd nx 0 (ZDX mA mB oX (sv (h - 1 - 1)).toInt64 (sv (h - 1 - 0)).toInt64 + (px (Zcu ss cl p) - oX).toInt64).toInt32) (upd ny 0 (ZDX mA mB oY (sv (h - 1 - 0)).toInt64 (-(sv (h - 1 - 1)).toInt64) + (py (Zcu ss cl p) - oY).toInt64).toInt32) → wY_check_87 Q (nI 31) (nI (ztk 31)) (nI t) 0 (nI h) (nI n) (nI a) 0 (-1) (nI (s + 1)) (nI c) nw gn bg wd tk tv dg sk sv vk vv hw fr og lf st la fm fc gr wi mn qx qy ss cl cp nx ny := by
    intro g hg1 hg0 Q k
    have k2 : ∀ g', g' = g → wY_planAll_297 (fun u => match u with | (yt₁, yo₁, yh₁, yi₁, ya₁, ye₁, yp₁, ys₁, yc₁, nw₁, gn₁, bg₁, wd₁, tk₁, tv₁, dg₁, sk₁, sv₁, vk₁, vv₁, hw₁, fr₁, og₁, lf₁, st₁, la₁, fm₁, fc₁, gr₁, wi₁, mn₁, qx₁, qy₁, ss₁, cl₁, cp₁, nx₁, ny₁) => (nI 31 = 33 → ((wd₁ = 0 → wY_check_129 Q (nI 31) (nI (ztk 31)) yt₁ yo₁ yh₁ yi₁ ya₁ ye₁ yp₁ ys₁ yc₁ nw₁ gn₁ bg₁ wd₁ tk₁ tv₁ dg₁ sk₁ sv₁ vk₁ vv₁ hw₁ fr₁ og₁ lf₁ st₁ la₁ fm₁ fc₁ gr₁ wi₁ mn₁ qx₁ qy₁ ss₁ cl₁ cp₁ nx₁ ny₁) ∧ (¬ wd₁ = 0 → ((bg₁ = 0 → wY_check_125 Q (nI 31) (nI (ztk 31)) 8 (mn₁ 0) yt₁ yo₁ yh₁ yi₁ ya₁ ye₁ yp₁ ys₁ yc₁ nw₁ gn₁ bg₁ wd₁ tk₁ tv₁ dg₁ sk₁ sv₁ vk₁ vv₁ hw₁ fr₁ og₁ lf₁ st₁ la₁ fm₁ fc₁ gr₁ wi₁ mn₁ qx₁ qy₁ ss₁ cl₁ cp₁ nx₁ ny₁) ∧ (¬ bg₁ = 0 → wY_check_125 Q (nI 31) (nI (ztk 31)) 9 (mn₁ 0) yt₁ yo₁ yh₁ yi₁ ya₁ ye₁ yp₁ ys₁ yc₁ nw₁ gn₁ bg₁ wd₁ tk₁ tv₁ dg₁ sk₁ sv₁ vk₁ vv₁ hw₁ fr₁ og₁ lf₁ st₁ la₁ fm₁ fc₁ gr₁ wi₁ mn₁ qx₁ qy₁ ss₁ cl₁ cp₁ nx₁ ny₁))))) ∧ (¬ nI 31 = 33 → wY_check_129 Q (nI 31) (nI (ztk 31)) yt₁ yo₁ yh₁ yi₁ ya₁ ye₁ yp₁ ys₁ yc₁ nw₁ gn₁ bg₁ wd₁ tk₁ tv₁ dg₁ sk₁ sv₁ vk₁ vv₁ hw₁ fr₁ og₁ lf₁ st₁ la₁ fm₁ fc₁ gr₁ wi₁ mn₁ qx₁ qy₁ ss₁ cl₁ cp₁ nx₁ ny₁)) (nI 31) (nI (Zft ss p)) (nI (Zcu ss cl p)) 1 1 (nI t) 0 (nI h) (nI n) (nI a) 0 (-1) (nI (s + 1)) (nI c) 0 (nI g') 1 0 tk tv dg sk sv vk vv hw fr og lf st la fm fc gr wi mn qx qy ss cl cp nx ny := by
      intro g' hg'
      subst hg'
      exact br_f (by decide) (y_329b (q := 0) (j := Zcu ss cl p) (by decide) hG.1 rfl hh z1 rfl (by omega) (Or.inl rfl) rfl (by omega) d1 d2 d6 d7 (br_f (by decide) k))
    refine br_f (by decide) (br_f (by decide) (y_pl134 (by decide) (by decide) h0 hmn (by omega) ?_))
    refine br_f (by decide) (br_t rfl (br_t rfl (?_)))
    refine br_f (by decide) ⟨rfl, rfl, br_f (by decide) (br_f (by rw [hmn]; exact nI_ge (a := 0) (by omega) (by omega)) ?_)⟩
    rw [hmn, nI_pred]
    refine pk_eq (Zft ss p) p (fun q1 => ⟨vp_in_nI (by omega) (by omega), ?_⟩) (fun q1 => k2 0 (hg0 (fun z => q1 (hzf.mpr z.1))).symm)
    rw [zc_i (by omega)]
    exact br_c (fun q2 => k2 1 (hg1 ⟨hzf.mp q1, q2⟩).symm) (fun q2 => k2 0 (hg0 (fun z => q2 z.2)).symm)
  refine br_t rfl ?_
  unfold wX_changePath_25
  refine x_curPt hP hpc ⟨icu, nm_r (show _ = (ZDX mA mB oX (sv (h - 1 - 1)).toInt64 (sv (h - 1 - 0)).toInt64 + (px (Zcu ss cl p) - oX).toInt64) by rw [ecu]) ⟨icu, nm_r (show _ = (ZDX mA mB oY (sv (h - 1 - 0)).toInt64 (-(sv (h - 1 - 1)).toInt64) + (py (Zcu ss cl p) - oY).toInt64) by rw [ecu]) (br_f (by decide) (br_f (by decide) (br_f (by decide) (br_f (by decide) (br_t rfl (?_))))))⟩⟩
  unfold wX_changePath_104 wpX_moveTo
  subst hpc
  refine ql_f (p + 1) 0 (by omega) ⟨by rw [nI_pred]; exact vp_in_nI (by omega) (by omega), ?_⟩
  rw [nI_pred, zc_i (n := p) (by omega), b5]
  refine br_c (fun q => ?_) (fun q => ?_)
  · have q' := zmk_e.mp q
    exact nm_r (pk_m1 p) (fin _ (fun r u k => by obtain ⟨tc₁, ob₁, ps₁, su₁, ep₁, sd₁, bc₁, mA₁, mB₁, oX₁, oY₁, gY₁, wD₁, pC₁, sC₁, tk₁, tv₁, cb₁, sk₁, sv₁, vk₁, vv₁, bp₁, br₁, bh₁, bn₁, bs₁, bl₁, px₁, py₁, pm₁, cr₁, sn₁, sx₁, sy₁, sm₁, sp₁, dg₁⟩ := u; exact k) p 1 (ZDX mA mB oX (sv (h - 1 - 1)).toInt64 (sv (h - 1 - 0)).toInt64 + (px (Zcu ss cl p) - oX).toInt64) (ZDX mA mB oY (sv (h - 1 - 0)).toInt64 (-(sv (h - 1 - 1)).toInt64) + (py (Zcu ss cl p) - oY).toInt64) (by omega) (by omega) (hYp 1 (fun _ => rfl) (fun z => absurd q' z)))
  · have q' : ¬ (ss p ≠ 0 ∧ cl (Zft ss p) = 0) := fun z => q (zmk_e.mpr z)
    exact fin _ (fun r u k => by obtain ⟨tc₁, ob₁, ps₁, su₁, ep₁, sd₁, bc₁, mA₁, mB₁, oX₁, oY₁, gY₁, wD₁, pC₁, sC₁, tk₁, tv₁, cb₁, sk₁, sv₁, vk₁, vv₁, bp₁, br₁, bh₁, bn₁, bs₁, bl₁, px₁, py₁, pm₁, cr₁, sn₁, sx₁, sy₁, sm₁, sp₁, dg₁⟩ := u; exact k) (p + 1) 0 (ZDX mA mB oX (sv (h - 1 - 1)).toInt64 (sv (h - 1 - 0)).toInt64 + (px (Zcu ss cl p) - oX).toInt64) (ZDX mA mB oY (sv (h - 1 - 0)).toInt64 (-(sv (h - 1 - 1)).toInt64) + (py (Zcu ss cl p) - oY).toInt64) (by omega) (by omega) (hYp 0 (fun z => absurd z q') (fun _ => rfl))
theorem st_lineto {t h n a c s pc : Nat} {PX : Int32 → SX → Prop} (hR : ZR t h n a c mA mB oX oY gY wD pC tk tv cb sk sv vk vv bp br bh bn bs bl px py pm cr sn sx sy sm sp hw fr og lf st la fm fc gr wi mn qx qy ss cl cp) (ha : a < t) (hk : tk a = 1) (hv : tv a = nI 30) (hpc : pC = nI pc) (hp48 : pc ≤ 48) (hE : ZE1 30 h sk pc = 0)
    (H : ∀ (e : Int32) (u' : SX) (v' : SY), ZStep a (s + 1) e u' v' → (∀ PY : SY → Prop, PY v' → wpY_execute PY (nI t, 0, nI h, nI n, nI a, 0, -1, nI (s + 1), nI c, nw, gn, bg, wd, tk, tv, dg, sk, sv, vk, vv, hw, fr, og, lf, st, la, fm, fc, gr, wi, mn, qx, qy, ss, cl, cp, nx, ny)) → PX e u') : wpX_execute PX (nI t, 0, nI a, nI s, -1, nI h, nI n, mA, mB, oX, oY, gY, wD, pC, nI c, tk, tv, cb, sk, sv, vk, vv, bp, br, bh, bn, bs, bl, px, py, pm, cr, sn, sx, sy, sm, sp, dg) (nI a) := by
  have hR' := hR
  obtain ⟨hT, hS, hV, hF, hPO, hG, hSV⟩ := hR
  have ht := hT.1
  have hh := hS.1
  have hmn := zg_mn hG hpc
  have hi : vp_in (nI a) 100 := vp_in_nI (by omega) (by omega)
  have e : (nI a).toNatClampNeg = a := zc_i (by omega)
  have ek : tk (nI a).toNatClampNeg = 1 := by rw [e]; exact hk
  have ev : tv (nI a).toNatClampNeg = nI 30 := by rw [e]; exact hv
  have hpn := po_next hPO ha (by rw [hk]; decide) (by rw [hk]; decide)
  obtain ⟨z1, z2, z3, z4⟩ := ze_0 hE
  have z1 : 2 ≤ h := z1
  have hP := zg_pt hG hpc hp48
  have hpc0 : 0 < pc := z3 (by decide) (by decide)
  obtain ⟨p, rfl⟩ : ∃ p, pc = p + 1 := ⟨pc - 1, by omega⟩
  have hl := zft_le ss p
  have h0 := hP.2.1 (by omega)
  have hcu : Zcu ss cl p ≤ p := zcu_le
  obtain ⟨d1, d2, d3, d4, d5, d6, d7⟩ := hP.2.2 (Zcu ss cl p) (by omega)
  obtain ⟨f1, f2, f3, f4, f5, f6, f7⟩ := hP.2.2 (Zft ss p) (by omega)
  have ecu : (nI (Zcu ss cl p)).toNatClampNeg = Zcu ss cl p := zc_i (by omega)
  have icu : vp_in (nI (Zcu ss cl p)) 48 := vp_in_nI (by omega) (by omega)
  have eft : (nI (Zft ss p)).toNatClampNeg = Zft ss p := zc_i (by omega)
  have ift : vp_in (nI (Zft ss p)) 48 := vp_in_nI (by omega) (by omega)
  have ift2 : vp_in (nI (Zft ss p)) 240 := vp_in_nI (by omega) (by omega)
  have hz0 := zof_sm f6 f7
  have hYo : cl (Zft ss p) = 0 → ∀ Q : Int32 → SY → Prop, wY_check_129 Q (nI 30) (nI 2) (nI t) 0 (nI h) (nI n) (nI a) 0 (-1) (nI (s + 1)) (nI c) (nI (0 + 1)) 0 0 (0 ||| zof (ZDX mA mB oX (sv (h - 1 - 1)).toInt64 (sv (h - 1 - 0)).toInt64) (ZDX mA mB oY (sv (h - 1 - 0)).toInt64 (-(sv (h - 1 - 1)).toInt64))) tk tv dg sk sv vk vv hw fr og lf st la fm fc gr wi mn qx qy ss cl cp (upd nx 0 (ZDX mA mB oX (sv (h - 1 - 1)).toInt64 (sv (h - 1 - 0)).toInt64).toInt32) (upd ny 0 (ZDX mA mB oY (sv (h - 1 - 0)).toInt64 (-(sv (h - 1 - 1)).toInt64)).toInt32) → wY_check_87 Q (nI 30) (nI (ztk 30)) (nI t) 0 (nI h) (nI n) (nI a) 0 (-1) (nI (s + 1)) (nI c) nw gn bg wd tk tv dg sk sv vk vv hw fr og lf st la fm fc gr wi mn qx qy ss cl cp nx ny := by
    intro hc Q k
    refine br_f (by decide) (br_f (by decide) (y_pl134 (by decide) (by decide) h0 hmn (by omega) (br_f (by decide) (br_f (by decide) (br_f (by decide) (br_f (by decide) (br_t rfl (?_))))))))
    refine ⟨ift2, br_t (by rw [eft]; exact hc) ⟨rfl, rfl, br_t rfl (br_t rfl ⟨ift2, br_t (by rw [eft]; exact hc) ?_⟩)⟩⟩
    exact y_329n (q := 0) (by decide) hG.1 rfl hh z1 rfl (by omega) (Or.inl rfl) (br_f (by decide) k)
  have hYc : cl (Zft ss p) ≠ 0 → ∀ Q : Int32 → SY → Prop, wY_check_129 Q (nI 30) (nI 2) (nI t) 0 (nI h) (nI n) (nI a) 0 (-1) (nI (s + 1)) (nI c) (nI (1 + 1)) 0 1 ((0 ||| zof (px (Zft ss p)).toInt64 (py (Zft ss p)).toInt64) ||| zof (ZDX mA mB oX (sv (h - 1 - 1)).toInt64 (sv (h - 1 - 0)).toInt64) (ZDX mA mB oY (sv (h - 1 - 0)).toInt64 (-(sv (h - 1 - 1)).toInt64))) tk tv dg sk sv vk vv hw fr og lf st la fm fc gr wi mn qx qy ss cl cp (upd (upd nx 0 ((px (Zft ss p)).toInt64).toInt32) 1 (ZDX mA mB oX (sv (h - 1 - 1)).toInt64 (sv (h - 1 - 0)).toInt64).toInt32) (upd (upd ny 0 ((py (Zft ss p)).toInt64).toInt32) 1 (ZDX mA mB oY (sv (h - 1 - 0)).toInt64 (-(sv (h - 1 - 1)).toInt64)).toInt32) → wY_check_87 Q (nI 30) (nI (ztk 30)) (nI t) 0 (nI h) (nI n) (nI a) 0 (-1) (nI (s + 1)) (nI c) nw gn bg wd tk tv dg sk sv vk vv hw fr og lf st la fm fc gr wi mn qx qy ss cl cp nx ny := by
    intro hc Q k
    refine br_f (by decide) (br_f (by decide) (y_pl134 (by decide) (by decide) h0 hmn (by omega) (br_f (by decide) (br_f (by decide) (br_f (by decide) (br_f (by decide) (br_t rfl (?_))))))))
    refine ⟨ift2, br_f (by rw [eft]; exact hc) ⟨rfl, rfl, br_t rfl (br_t rfl ⟨ift2, br_f (by rw [eft]; exact hc) ⟨ift2, ift2, ?_⟩⟩)⟩⟩
    rw [eft, f1, f2]
    refine y_plan (q := 0) rfl (by omega) (Or.inl rfl) ?_
    exact y_329n (q := 1) (by decide) hG.1 rfl hh z1 rfl (by omega) (by rw [zor_0]; exact zof_01 _ _) (br_f (by decide) k)
  refine nm_r (nI_1 s) (nm_r (nI_1 a) ⟨hi, br_t ek ⟨hi, nm_r ev (x_oe0 (by decide) hh hp48 rfl hpc hE (br_t rfl (br_t (by decide) (br_f (by decide) (br_f (by decide) (br_f (by decide) (br_t (by decide) (br_f (by decide) (br_f (by decide) (br_f (by decide) (br_t (by decide) (?_))))))))))))⟩⟩)
  unfold wX_execute_139 wpX_changePath
  refine x_opDX (j := 0) rfl rfl hh (by omega) (x_opDY (j := 0) rfl rfl hh (by omega) ?_)
  refine br_f (by decide) (br_f (by decide) (br_f (by decide) (br_f (by decide) (br_f (by decide) (br_t rfl (?_))))))
  unfold wX_changePath_112 wpX_lineTo
  refine x_lastClosed hP hpc ?_
  subst hpc
  by_cases hc : cl (Zft ss p) = 0
  · rw [if_pos hc]
    refine br_t rfl ?_
    refine pk_le (p + 1 + 1) 48 (fun q1 => x_off ?_) (fun q1 => ?_) (nI_1 (p + 1))
    · by_cases e : zof (ZDX mA mB oX (sv (h - 1 - 1)).toInt64 (sv (h - 1 - 0)).toInt64) (ZDX mA mB oY (sv (h - 1 - 0)).toInt64 (-(sv (h - 1 - 1)).toInt64)) = 0
      · have hb := zof_0 e
        refine br_t e (br_t rfl ?_)
        unfold wX_lineTo_71
        refine x_append rfl (by omega) (x_153 (n := 2) (by decide) rfl z1 rfl (H 0 _ (nI t, 0, nI (h - 2), nI n, nI a + 1, 0, -1, nI (s + 1), nI c, nI (0 + 1), 0, 0, 0 ||| zof (ZDX mA mB oX (sv (h - 1 - 1)).toInt64 (sv (h - 1 - 0)).toInt64) (ZDX mA mB oY (sv (h - 1 - 0)).toInt64 (-(sv (h - 1 - 1)).toInt64)), tk, tv, dg, sk, sv, vk, vv, hw, fr, og, lf, st, la, fm, fc, gr, wi, upd mn 0 (nI (p + 1 + 1)), zf qx (p + 1) (p + 1 + 1) (fun i => (upd nx 0 (ZDX mA mB oX (sv (h - 1 - 1)).toInt64 (sv (h - 1 - 0)).toInt64).toInt32) (i - (p + 1))), zf qy (p + 1) (p + 1 + 1) (fun i => (upd ny 0 (ZDX mA mB oY (sv (h - 1 - 0)).toInt64 (-(sv (h - 1 - 1)).toInt64)).toInt32) (i - (p + 1))), zf ss (p + 1) (p + 1 + 1) (fun i => if (0 : Int32) ≠ 0 ∧ i = p + 1 then 1 else 0), zf cl (p + 1) (p + 1 + 1) (fun _ => 0), cp, upd nx 0 (ZDX mA mB oX (sv (h - 1 - 1)).toInt64 (sv (h - 1 - 0)).toInt64).toInt32, upd ny 0 (ZDX mA mB oY (sv (h - 1 - 0)).toInt64 (-(sv (h - 1 - 1)).toInt64)).toInt32) (zs_ok ⟨hT, zst_le hS (by omega), hV, hF, hpn, zgs_path (q := p + 1 + 1) hG (zpt_extN hP hc (by omega) (fun k hk => ⟨pk_un (by omega), pk_un (by omega), pk_un (by omega), zf_lo hk, zf_lo hk, zf_lo hk, zf_lo hk⟩) (fun k h1 h2 => ?_) (fun k h1 h2 => ?_)), zsv_up hSV zr_i zr_i zr_i zr_i zr_u (fun i hi => zf_hi (by omega)) (fun i hi => zf_hi (by omega)) (fun i hi => zf_hi (by omega)) (fun i hi => zf_hi (by omega)) zr_i⟩ rfl (nI_1 a) rfl rfl rfl rfl rfl rfl) (fun PY hp => ?_)))
        · have ek : k = p + 1 := by omega
          subst ek
          rw [zf_in (by omega) (by omega), zf_in (by omega) (by omega), zf_in (by omega) (by omega), Nat.sub_self, pk_us, pk_us, pk_us, pk_us]
          exact ⟨rfl, rfl, rfl, hb.1, hb.2⟩
        · have ek : k = p + 1 := by omega
          subst ek
          rw [zf_in (by omega) (by omega), if_neg (fun z => z.1 rfl), pk_us]
          exact ⟨rfl, rfl⟩
        · refine ⟨hi, nm_r ev ⟨hi, nm_r ek (br_f (by decide) (br_f (by decide) (br_f (by decide) (br_t rfl ?_))))⟩⟩
          unfold wY_execute_245 wpY_operate
          refine y_check (by decide) hh hp48 (zst_k hS) rfl hmn (fun z => absurd hE z) (fun _ z => absurd z (by decide)) (fun _ _ _ => hYo hc _ (y_ckP (g := 0) rfl hh z1 hmn hp48 rfl (by omega) rfl (by omega) (by decide) (by decide) (by decide) (by decide) (by decide) (by decide) (by decide) (by decide) (by decide) (by decide) (by decide) (by decide) (by decide) (fun z => by omega) (fun _ z => absurd (by rw [zor_0]; exact e) z) (fun _ _ => br_t rfl ?_)))
          refine br_t (by decide) (br_t (by decide) (br_t (by decide) (br_t (by decide) (?_))))
          unfold wY_operate_71
          exact y_path (m := p + 1) (q := 1) (n := 2) (g := 0) (by decide) (by decide) rfl z1 rfl (by omega) (by omega) (Or.inl rfl) (by decide) rfl rfl hmn (by omega) (by omega) hp48 (fun z => absurd z (by decide)) (fun _ => br_f (by decide) (nm_e hp))
      · refine br_f e (x_153e (by decide) (H 5 _ (nI t, 0, nI h, nI n, nI a, 5, -1, nI (s + 1), nI c, nI (0 + 1), 0, 0, 0 ||| zof (ZDX mA mB oX (sv (h - 1 - 1)).toInt64 (sv (h - 1 - 0)).toInt64) (ZDX mA mB oY (sv (h - 1 - 0)).toInt64 (-(sv (h - 1 - 1)).toInt64)), tk, tv, dg, sk, sv, vk, vv, hw, fr, og, lf, st, la, fm, fc, gr, wi, mn, qx, qy, ss, cl, cp, upd nx 0 (ZDX mA mB oX (sv (h - 1 - 1)).toInt64 (sv (h - 1 - 0)).toInt64).toInt32, upd ny 0 (ZDX mA mB oY (sv (h - 1 - 0)).toInt64 (-(sv (h - 1 - 1)).toInt64)).toInt32) (zs_er hR' (by decide)) (fun PY hp => ?_)))
        refine ⟨hi, nm_r ev ⟨hi, nm_r ek (br_f (by decide) (br_f (by decide) (br_f (by decide) (br_t rfl ?_))))⟩⟩
        unfold wY_execute_245 wpY_operate
        refine y_check (by decide) hh hp48 (zst_k hS) rfl hmn (fun z => absurd hE z) (fun _ z => absurd z (by decide)) (fun _ _ _ => hYo hc _ (y_ckP (g := 0) rfl hh z1 hmn hp48 rfl (by omega) rfl (by omega) (by decide) (by decide) (by decide) (by decide) (by decide) (by decide) (by decide) (by decide) (by decide) (by decide) (by decide) (by decide) (by decide) (fun z => by omega) (fun _ _ => br_f (by decide) hp) (fun _ z => absurd (by rw [zor_0] at z; exact z) e)))
    · refine x_153e (by decide) (H 7 _ (nI t, 0, nI h, nI n, nI a, 7, -1, nI (s + 1), nI c, nI (0 + 1), 0, 0, 0 ||| zof (ZDX mA mB oX (sv (h - 1 - 1)).toInt64 (sv (h - 1 - 0)).toInt64) (ZDX mA mB oY (sv (h - 1 - 0)).toInt64 (-(sv (h - 1 - 1)).toInt64)), tk, tv, dg, sk, sv, vk, vv, hw, fr, og, lf, st, la, fm, fc, gr, wi, mn, qx, qy, ss, cl, cp, upd nx 0 (ZDX mA mB oX (sv (h - 1 - 1)).toInt64 (sv (h - 1 - 0)).toInt64).toInt32, upd ny 0 (ZDX mA mB oY (sv (h - 1 - 0)).toInt64 (-(sv (h - 1 - 1)).toInt64)).toInt32) (zs_er hR' (by decide)) (fun PY hp => ?_))
      refine ⟨hi, nm_r ev ⟨hi, nm_r ek (br_f (by decide) (br_f (by decide) (br_f (by decide) (br_t rfl ?_))))⟩⟩
      unfold wY_execute_245 wpY_operate
      refine y_check (by decide) hh hp48 (zst_k hS) rfl hmn (fun z => absurd hE z) (fun _ z => absurd z (by decide)) (fun _ _ _ => hYo hc _ (y_ckP (g := 0) rfl hh z1 hmn hp48 rfl (by omega) rfl (by omega) (by decide) (by decide) (by decide) (by decide) (by decide) (by decide) (by decide) (by decide) (by decide) (by decide) (by decide) (by decide) (by decide) (fun _ => br_f (by decide) hp) (fun z => by omega) (fun z => by omega)))
  · rw [if_neg hc]
    refine br_f (by decide) ?_
    refine pk_le (p + 1 + 2) 48 (fun q1 => x_off ?_) (fun q1 => ?_) (nI_add (p + 1) 2)
    · by_cases e : zof (ZDX mA mB oX (sv (h - 1 - 1)).toInt64 (sv (h - 1 - 0)).toInt64) (ZDX mA mB oY (sv (h - 1 - 0)).toInt64 (-(sv (h - 1 - 1)).toInt64)) = 0
      · have hb := zof_0 e
        refine br_t e (br_f (by decide) (x_lastSub hP rfl ⟨ift, ift, ?_⟩))
        rw [eft]
        unfold wX_lineTo_71
        refine x_append rfl (by omega) (x_append rfl (by omega) (x_153 (n := 2) (by decide) rfl z1 rfl (H 0 _ (nI t, 0, nI (h - 2), nI n, nI a + 1, 0, -1, nI (s + 1), nI c, nI (1 + 1), 0, 1, (0 ||| zof (px (Zft ss p)).toInt64 (py (Zft ss p)).toInt64) ||| zof (ZDX mA mB oX (sv (h - 1 - 1)).toInt64 (sv (h - 1 - 0)).toInt64) (ZDX mA mB oY (sv (h - 1 - 0)).toInt64 (-(sv (h - 1 - 1)).toInt64)), tk, tv, dg, sk, sv, vk, vv, hw, fr, og, lf, st, la, fm, fc, gr, wi, upd mn 0 (nI (p + 1 + 2)), zf qx (p + 1) (p + 1 + 2) (fun i => (upd (upd nx 0 ((px (Zft ss p)).toInt64).toInt32) 1 (ZDX mA mB oX (sv (h - 1 - 1)).toInt64 (sv (h - 1 - 0)).toInt64).toInt32) (i - (p + 1))), zf qy (p + 1) (p + 1 + 2) (fun i => (upd (upd ny 0 ((py (Zft ss p)).toInt64).toInt32) 1 (ZDX mA mB oY (sv (h - 1 - 0)).toInt64 (-(sv (h - 1 - 1)).toInt64)).toInt32) (i - (p + 1))), zf ss (p + 1) (p + 1 + 2) (fun i => if (1 : Int32) ≠ 0 ∧ i = p + 1 then 1 else 0), zf cl (p + 1) (p + 1 + 2) (fun _ => 0), cp, upd (upd nx 0 ((px (Zft ss p)).toInt64).toInt32) 1 (ZDX mA mB oX (sv (h - 1 - 1)).toInt64 (sv (h - 1 - 0)).toInt64).toInt32, upd (upd ny 0 ((py (Zft ss p)).toInt64).toInt32) 1 (ZDX mA mB oY (sv (h - 1 - 0)).toInt64 (-(sv (h - 1 - 1)).toInt64)).toInt32) (zs_ok ⟨hT, zst_le hS (by omega), hV, hF, hpn, zgs_path (q := p + 1 + 2) hG (zpt_extB hP (by omega) (by omega) (fun k hk => ⟨by rw [pk_un (by omega), pk_un (by omega)], by rw [pk_un (by omega), pk_un (by omega)], by rw [pk_un (by omega), pk_un (by omega)], zf_lo hk, zf_lo hk, zf_lo hk, zf_lo hk⟩) (fun k h1 h2 => ?_) ?_ ?_ (fun k h1 h2 => ?_)), zsv_up hSV zr_i zr_i zr_i zr_i zr_u (fun i hi => zf_hi (by omega)) (fun i hi => zf_hi (by omega)) (fun i hi => zf_hi (by omega)) (fun i hi => zf_hi (by omega)) zr_i⟩ rfl (nI_1 a) rfl rfl rfl rfl rfl rfl) (fun PY hp => ?_))))
        · rw [zf_in (by omega) (by omega), zf_in (by omega) (by omega), zf_in (by omega) (by omega)]
          by_cases ek : k = p + 1
          · subst ek
            rw [Nat.sub_self, pk_un (by omega), pk_us, pk_un (by omega), pk_us, pk_un (by omega), pk_us, pk_un (by omega), pk_us, Int32.toInt32_toInt64, Int32.toInt32_toInt64]
            exact ⟨rfl, rfl, rfl, f6, f7⟩
          · have ek : k = p + 1 + 1 := by omega
            subst ek
            rw [show p + 1 + 1 - (p + 1) = 1 by omega, pk_us, pk_us, pk_us, pk_us]
            exact ⟨rfl, rfl, rfl, hb.1, hb.2⟩
        · rw [zf_in (by omega) (by omega), if_pos ⟨by decide, rfl⟩]
        · rw [pk_un (by omega), pk_us]
        · have ek : k = p + 1 + 1 := by omega
          subst ek
          rw [zf_in (by omega) (by omega), if_neg (fun z => by omega), pk_us]
          exact ⟨rfl, rfl⟩
        · refine ⟨hi, nm_r ev ⟨hi, nm_r ek (br_f (by decide) (br_f (by decide) (br_f (by decide) (br_t rfl ?_))))⟩⟩
          unfold wY_execute_245 wpY_operate
          refine y_check (by decide) hh hp48 (zst_k hS) rfl hmn (fun z => absurd hE z) (fun _ z => absurd z (by decide)) (fun _ _ _ => hYc hc _ (y_ckP (g := 0) rfl hh z1 hmn hp48 rfl (by omega) rfl (by omega) (by decide) (by decide) (by decide) (by decide) (by decide) (by decide) (by decide) (by decide) (by decide) (by decide) (by decide) (by decide) (by decide) (fun z => by omega) (fun _ z => absurd (by rw [zor_0, hz0, zor_0]; exact e) z) (fun _ _ => br_t rfl ?_)))
          refine br_t (by decide) (br_t (by decide) (br_t (by decide) (br_t (by decide) (?_))))
          unfold wY_operate_71
          exact y_path (m := p + 1) (q := 2) (n := 2) (g := 0) (by decide) (by decide) rfl z1 rfl (by omega) (by omega) (Or.inr rfl) (by decide) rfl rfl hmn (by omega) (by omega) hp48 (fun z => absurd z (by decide)) (fun _ => br_f (by decide) (nm_e hp))
      · refine br_f e (x_153e (by decide) (H 5 _ (nI t, 0, nI h, nI n, nI a, 5, -1, nI (s + 1), nI c, nI (1 + 1), 0, 1, (0 ||| zof (px (Zft ss p)).toInt64 (py (Zft ss p)).toInt64) ||| zof (ZDX mA mB oX (sv (h - 1 - 1)).toInt64 (sv (h - 1 - 0)).toInt64) (ZDX mA mB oY (sv (h - 1 - 0)).toInt64 (-(sv (h - 1 - 1)).toInt64)), tk, tv, dg, sk, sv, vk, vv, hw, fr, og, lf, st, la, fm, fc, gr, wi, mn, qx, qy, ss, cl, cp, upd (upd nx 0 ((px (Zft ss p)).toInt64).toInt32) 1 (ZDX mA mB oX (sv (h - 1 - 1)).toInt64 (sv (h - 1 - 0)).toInt64).toInt32, upd (upd ny 0 ((py (Zft ss p)).toInt64).toInt32) 1 (ZDX mA mB oY (sv (h - 1 - 0)).toInt64 (-(sv (h - 1 - 1)).toInt64)).toInt32) (zs_er hR' (by decide)) (fun PY hp => ?_)))
        refine ⟨hi, nm_r ev ⟨hi, nm_r ek (br_f (by decide) (br_f (by decide) (br_f (by decide) (br_t rfl ?_))))⟩⟩
        unfold wY_execute_245 wpY_operate
        refine y_check (by decide) hh hp48 (zst_k hS) rfl hmn (fun z => absurd hE z) (fun _ z => absurd z (by decide)) (fun _ _ _ => hYc hc _ (y_ckP (g := 0) rfl hh z1 hmn hp48 rfl (by omega) rfl (by omega) (by decide) (by decide) (by decide) (by decide) (by decide) (by decide) (by decide) (by decide) (by decide) (by decide) (by decide) (by decide) (by decide) (fun z => by omega) (fun _ _ => br_f (by decide) hp) (fun _ z => absurd (by rw [zor_0, hz0, zor_0] at z; exact z) e)))
    · refine x_153e (by decide) (H 7 _ (nI t, 0, nI h, nI n, nI a, 7, -1, nI (s + 1), nI c, nI (1 + 1), 0, 1, (0 ||| zof (px (Zft ss p)).toInt64 (py (Zft ss p)).toInt64) ||| zof (ZDX mA mB oX (sv (h - 1 - 1)).toInt64 (sv (h - 1 - 0)).toInt64) (ZDX mA mB oY (sv (h - 1 - 0)).toInt64 (-(sv (h - 1 - 1)).toInt64)), tk, tv, dg, sk, sv, vk, vv, hw, fr, og, lf, st, la, fm, fc, gr, wi, mn, qx, qy, ss, cl, cp, upd (upd nx 0 ((px (Zft ss p)).toInt64).toInt32) 1 (ZDX mA mB oX (sv (h - 1 - 1)).toInt64 (sv (h - 1 - 0)).toInt64).toInt32, upd (upd ny 0 ((py (Zft ss p)).toInt64).toInt32) 1 (ZDX mA mB oY (sv (h - 1 - 0)).toInt64 (-(sv (h - 1 - 1)).toInt64)).toInt32) (zs_er hR' (by decide)) (fun PY hp => ?_))
      refine ⟨hi, nm_r ev ⟨hi, nm_r ek (br_f (by decide) (br_f (by decide) (br_f (by decide) (br_t rfl ?_))))⟩⟩
      unfold wY_execute_245 wpY_operate
      refine y_check (by decide) hh hp48 (zst_k hS) rfl hmn (fun z => absurd hE z) (fun _ z => absurd z (by decide)) (fun _ _ _ => hYc hc _ (y_ckP (g := 0) rfl hh z1 hmn hp48 rfl (by omega) rfl (by omega) (by decide) (by decide) (by decide) (by decide) (by decide) (by decide) (by decide) (by decide) (by decide) (by decide) (by decide) (by decide) (by decide) (fun _ => br_f (by decide) hp) (fun z => by omega) (fun z => by omega)))
theorem st_rlineto {t h n a c s pc : Nat} {PX : Int32 → SX → Prop} (hR : ZR t h n a c mA mB oX oY gY wD pC tk tv cb sk sv vk vv bp br bh bn bs bl px py pm cr sn sx sy sm sp hw fr og lf st la fm fc gr wi mn qx qy ss cl cp) (ha : a < t) (hk : tk a = 1) (hv : tv a = nI 32) (hpc : pC = nI pc) (hp48 : pc ≤ 48) (hE : ZE1 32 h sk pc = 0)
    (H : ∀ (e : Int32) (u' : SX) (v' : SY), ZStep a (s + 1) e u' v' → (∀ PY : SY → Prop, PY v' → wpY_execute PY (nI t, 0, nI h, nI n, nI a, 0, -1, nI (s + 1), nI c, nw, gn, bg, wd, tk, tv, dg, sk, sv, vk, vv, hw, fr, og, lf, st, la, fm, fc, gr, wi, mn, qx, qy, ss, cl, cp, nx, ny)) → PX e u') : wpX_execute PX (nI t, 0, nI a, nI s, -1, nI h, nI n, mA, mB, oX, oY, gY, wD, pC, nI c, tk, tv, cb, sk, sv, vk, vv, bp, br, bh, bn, bs, bl, px, py, pm, cr, sn, sx, sy, sm, sp, dg) (nI a) := by
  have hR' := hR
  obtain ⟨hT, hS, hV, hF, hPO, hG, hSV⟩ := hR
  have ht := hT.1
  have hh := hS.1
  have hmn := zg_mn hG hpc
  have hi : vp_in (nI a) 100 := vp_in_nI (by omega) (by omega)
  have e : (nI a).toNatClampNeg = a := zc_i (by omega)
  have ek : tk (nI a).toNatClampNeg = 1 := by rw [e]; exact hk
  have ev : tv (nI a).toNatClampNeg = nI 32 := by rw [e]; exact hv
  have hpn := po_next hPO ha (by rw [hk]; decide) (by rw [hk]; decide)
  obtain ⟨z1, z2, z3, z4⟩ := ze_0 hE
  have z1 : 2 ≤ h := z1
  have hP := zg_pt hG hpc hp48
  have hpc0 : 0 < pc := z3 (by decide) (by decide)
  obtain ⟨p, rfl⟩ : ∃ p, pc = p + 1 := ⟨pc - 1, by omega⟩
  have hl := zft_le ss p
  have h0 := hP.2.1 (by omega)
  have hcu : Zcu ss cl p ≤ p := zcu_le
  obtain ⟨d1, d2, d3, d4, d5, d6, d7⟩ := hP.2.2 (Zcu ss cl p) (by omega)
  obtain ⟨f1, f2, f3, f4, f5, f6, f7⟩ := hP.2.2 (Zft ss p) (by omega)
  have ecu : (nI (Zcu ss cl p)).toNatClampNeg = Zcu ss cl p := zc_i (by omega)
  have icu : vp_in (nI (Zcu ss cl p)) 48 := vp_in_nI (by omega) (by omega)
  have eft : (nI (Zft ss p)).toNatClampNeg = Zft ss p := zc_i (by omega)
  have ift : vp_in (nI (Zft ss p)) 48 := vp_in_nI (by omega) (by omega)
  have ift2 : vp_in (nI (Zft ss p)) 240 := vp_in_nI (by omega) (by omega)
  have hz0 := zof_sm f6 f7
  have hYo : cl (Zft ss p) = 0 → ∀ Q : Int32 → SY → Prop, wY_check_129 Q (nI 32) (nI 2) (nI t) 0 (nI h) (nI n) (nI a) 0 (-1) (nI (s + 1)) (nI c) (nI (0 + 1)) 0 0 (0 ||| zof (ZDX mA mB oX (sv (h - 1 - 1)).toInt64 (sv (h - 1 - 0)).toInt64 + (px (Zcu ss cl p) - oX).toInt64) (ZDX mA mB oY (sv (h - 1 - 0)).toInt64 (-(sv (h - 1 - 1)).toInt64) + (py (Zcu ss cl p) - oY).toInt64)) tk tv dg sk sv vk vv hw fr og lf st la fm fc gr wi mn qx qy ss cl cp (upd nx 0 (ZDX mA mB oX (sv (h - 1 - 1)).toInt64 (sv (h - 1 - 0)).toInt64 + (px (Zcu ss cl p) - oX).toInt64).toInt32) (upd ny 0 (ZDX mA mB oY (sv (h - 1 - 0)).toInt64 (-(sv (h - 1 - 1)).toInt64) + (py (Zcu ss cl p) - oY).toInt64).toInt32) → wY_check_87 Q (nI 32) (nI (ztk 32)) (nI t) 0 (nI h) (nI n) (nI a) 0 (-1) (nI (s + 1)) (nI c) nw gn bg wd tk tv dg sk sv vk vv hw fr og lf st la fm fc gr wi mn qx qy ss cl cp nx ny := by
    intro hc Q k
    refine br_f (by decide) (br_f (by decide) (y_pl134 (by decide) (by decide) h0 hmn (by omega) (br_f (by decide) (br_f (by decide) (br_f (by decide) (br_t rfl (br_t rfl (?_))))))))
    refine ⟨ift2, br_t (by rw [eft]; exact hc) ⟨rfl, rfl, br_t rfl (br_t rfl ⟨ift2, br_t (by rw [eft]; exact hc) ?_⟩)⟩⟩
    exact y_329b (q := 0) (j := Zcu ss cl p) (by decide) hG.1 rfl hh z1 rfl (by omega) (Or.inl rfl) rfl (by omega) d1 d2 d6 d7 (br_f (by decide) k)
  have hYc : cl (Zft ss p) ≠ 0 → ∀ Q : Int32 → SY → Prop, wY_check_129 Q (nI 32) (nI 2) (nI t) 0 (nI h) (nI n) (nI a) 0 (-1) (nI (s + 1)) (nI c) (nI (1 + 1)) 0 1 ((0 ||| zof (px (Zft ss p)).toInt64 (py (Zft ss p)).toInt64) ||| zof (ZDX mA mB oX (sv (h - 1 - 1)).toInt64 (sv (h - 1 - 0)).toInt64 + (px (Zcu ss cl p) - oX).toInt64) (ZDX mA mB oY (sv (h - 1 - 0)).toInt64 (-(sv (h - 1 - 1)).toInt64) + (py (Zcu ss cl p) - oY).toInt64)) tk tv dg sk sv vk vv hw fr og lf st la fm fc gr wi mn qx qy ss cl cp (upd (upd nx 0 ((px (Zft ss p)).toInt64).toInt32) 1 (ZDX mA mB oX (sv (h - 1 - 1)).toInt64 (sv (h - 1 - 0)).toInt64 + (px (Zcu ss cl p) - oX).toInt64).toInt32) (upd (upd ny 0 ((py (Zft ss p)).toInt64).toInt32) 1 (ZDX mA mB oY (sv (h - 1 - 0)).toInt64 (-(sv (h - 1 - 1)).toInt64) + (py (Zcu ss cl p) - oY).toInt64).toInt32) → wY_check_87 Q (nI 32) (nI (ztk 32)) (nI t) 0 (nI h) (nI n) (nI a) 0 (-1) (nI (s + 1)) (nI c) nw gn bg wd tk tv dg sk sv vk vv hw fr og lf st la fm fc gr wi mn qx qy ss cl cp nx ny := by
    intro hc Q k
    refine br_f (by decide) (br_f (by decide) (y_pl134 (by decide) (by decide) h0 hmn (by omega) (br_f (by decide) (br_f (by decide) (br_f (by decide) (br_t rfl (br_t rfl (?_))))))))
    refine ⟨ift2, br_f (by rw [eft]; exact hc) ⟨rfl, rfl, br_t rfl (br_t rfl ⟨ift2, br_f (by rw [eft]; exact hc) ⟨ift2, ift2, ?_⟩⟩)⟩⟩
    rw [eft, f1, f2]
    refine y_plan (q := 0) rfl (by omega) (Or.inl rfl) ?_
    exact y_329b (q := 1) (j := Zcu ss cl p) (by decide) hG.1 rfl hh z1 rfl (by omega) (by rw [zor_0]; exact zof_01 _ _) rfl (by omega) d1 d2 d6 d7 (br_f (by decide) k)
  refine nm_r (nI_1 s) (nm_r (nI_1 a) ⟨hi, br_t ek ⟨hi, nm_r ev (x_oe0 (by decide) hh hp48 rfl hpc hE (br_t rfl (br_t (by decide) (br_f (by decide) (br_f (by decide) (br_f (by decide) (br_t (by decide) (br_f (by decide) (br_f (by decide) (br_f (by decide) (br_t (by decide) (?_))))))))))))⟩⟩)
  unfold wX_execute_139 wpX_changePath
  refine x_opDX (j := 0) rfl rfl hh (by omega) (x_opDY (j := 0) rfl rfl hh (by omega) ?_)
  refine br_f (by decide) (br_t rfl ?_)
  unfold wX_changePath_25
  refine x_curPt hP hpc ⟨icu, nm_r (show _ = (ZDX mA mB oX (sv (h - 1 - 1)).toInt64 (sv (h - 1 - 0)).toInt64 + (px (Zcu ss cl p) - oX).toInt64) by rw [ecu]) ⟨icu, nm_r (show _ = (ZDX mA mB oY (sv (h - 1 - 0)).toInt64 (-(sv (h - 1 - 1)).toInt64) + (py (Zcu ss cl p) - oY).toInt64) by rw [ecu]) (br_f (by decide) (br_f (by decide) (br_f (by decide) (br_f (by decide) (br_f (by decide) (br_t rfl (?_)))))))⟩⟩
  unfold wX_changePath_112 wpX_lineTo
  refine x_lastClosed hP hpc ?_
  subst hpc
  by_cases hc : cl (Zft ss p) = 0
  · rw [if_pos hc]
    refine br_t rfl ?_
    refine pk_le (p + 1 + 1) 48 (fun q1 => x_off ?_) (fun q1 => ?_) (nI_1 (p + 1))
    · by_cases e : zof (ZDX mA mB oX (sv (h - 1 - 1)).toInt64 (sv (h - 1 - 0)).toInt64 + (px (Zcu ss cl p) - oX).toInt64) (ZDX mA mB oY (sv (h - 1 - 0)).toInt64 (-(sv (h - 1 - 1)).toInt64) + (py (Zcu ss cl p) - oY).toInt64) = 0
      · have hb := zof_0 e
        refine br_t e (br_t rfl ?_)
        unfold wX_lineTo_71
        refine x_append rfl (by omega) (x_153 (n := 2) (by decide) rfl z1 rfl (H 0 _ (nI t, 0, nI (h - 2), nI n, nI a + 1, 0, -1, nI (s + 1), nI c, nI (0 + 1), 0, 0, 0 ||| zof (ZDX mA mB oX (sv (h - 1 - 1)).toInt64 (sv (h - 1 - 0)).toInt64 + (px (Zcu ss cl p) - oX).toInt64) (ZDX mA mB oY (sv (h - 1 - 0)).toInt64 (-(sv (h - 1 - 1)).toInt64) + (py (Zcu ss cl p) - oY).toInt64), tk, tv, dg, sk, sv, vk, vv, hw, fr, og, lf, st, la, fm, fc, gr, wi, upd mn 0 (nI (p + 1 + 1)), zf qx (p + 1) (p + 1 + 1) (fun i => (upd nx 0 (ZDX mA mB oX (sv (h - 1 - 1)).toInt64 (sv (h - 1 - 0)).toInt64 + (px (Zcu ss cl p) - oX).toInt64).toInt32) (i - (p + 1))), zf qy (p + 1) (p + 1 + 1) (fun i => (upd ny 0 (ZDX mA mB oY (sv (h - 1 - 0)).toInt64 (-(sv (h - 1 - 1)).toInt64) + (py (Zcu ss cl p) - oY).toInt64).toInt32) (i - (p + 1))), zf ss (p + 1) (p + 1 + 1) (fun i => if (0 : Int32) ≠ 0 ∧ i = p + 1 then 1 else 0), zf cl (p + 1) (p + 1 + 1) (fun _ => 0), cp, upd nx 0 (ZDX mA mB oX (sv (h - 1 - 1)).toInt64 (sv (h - 1 - 0)).toInt64 + (px (Zcu ss cl p) - oX).toInt64).toInt32, upd ny 0 (ZDX mA mB oY (sv (h - 1 - 0)).toInt64 (-(sv (h - 1 - 1)).toInt64) + (py (Zcu ss cl p) - oY).toInt64).toInt32) (zs_ok ⟨hT, zst_le hS (by omega), hV, hF, hpn, zgs_path (q := p + 1 + 1) hG (zpt_extN hP hc (by omega) (fun k hk => ⟨pk_un (by omega), pk_un (by omega), pk_un (by omega), zf_lo hk, zf_lo hk, zf_lo hk, zf_lo hk⟩) (fun k h1 h2 => ?_) (fun k h1 h2 => ?_)), zsv_up hSV zr_i zr_i zr_i zr_i zr_u (fun i hi => zf_hi (by omega)) (fun i hi => zf_hi (by omega)) (fun i hi => zf_hi (by omega)) (fun i hi => zf_hi (by omega)) zr_i⟩ rfl (nI_1 a) rfl rfl rfl rfl rfl rfl) (fun PY hp => ?_)))
        · have ek : k = p + 1 := by omega
          subst ek
          rw [zf_in (by omega) (by omega), zf_in (by omega) (by omega), zf_in (by omega) (by omega), Nat.sub_self, pk_us, pk_us, pk_us, pk_us]
          exact ⟨rfl, rfl, rfl, hb.1, hb.2⟩
        · have ek : k = p + 1 := by omega
          subst ek
          rw [zf_in (by omega) (by omega), if_neg (fun z => z.1 rfl), pk_us]
          exact ⟨rfl, rfl⟩
        · refine ⟨hi, nm_r ev ⟨hi, nm_r ek (br_f (by decide) (br_f (by decide) (br_f (by decide) (br_t rfl ?_))))⟩⟩
          unfold wY_execute_245 wpY_operate
          refine y_check (by decide) hh hp48 (zst_k hS) rfl hmn (fun z => absurd hE z) (fun _ z => absurd z (by decide)) (fun _ _ _ => hYo hc _ (y_ckP (g := 0) rfl hh z1 hmn hp48 rfl (by omega) rfl (by omega) (by decide) (by decide) (by decide) (by decide) (by decide) (by decide) (by decide) (by decide) (by decide) (by decide) (by decide) (by decide) (by decide) (fun z => by omega) (fun _ z => absurd (by rw [zor_0]; exact e) z) (fun _ _ => br_t rfl ?_)))
          refine br_t (by decide) (br_t (by decide) (br_t (by decide) (br_t (by decide) (?_))))
          unfold wY_operate_71
          exact y_path (m := p + 1) (q := 1) (n := 2) (g := 0) (by decide) (by decide) rfl z1 rfl (by omega) (by omega) (Or.inl rfl) (by decide) rfl rfl hmn (by omega) (by omega) hp48 (fun z => absurd z (by decide)) (fun _ => br_f (by decide) (nm_e hp))
      · refine br_f e (x_153e (by decide) (H 5 _ (nI t, 0, nI h, nI n, nI a, 5, -1, nI (s + 1), nI c, nI (0 + 1), 0, 0, 0 ||| zof (ZDX mA mB oX (sv (h - 1 - 1)).toInt64 (sv (h - 1 - 0)).toInt64 + (px (Zcu ss cl p) - oX).toInt64) (ZDX mA mB oY (sv (h - 1 - 0)).toInt64 (-(sv (h - 1 - 1)).toInt64) + (py (Zcu ss cl p) - oY).toInt64), tk, tv, dg, sk, sv, vk, vv, hw, fr, og, lf, st, la, fm, fc, gr, wi, mn, qx, qy, ss, cl, cp, upd nx 0 (ZDX mA mB oX (sv (h - 1 - 1)).toInt64 (sv (h - 1 - 0)).toInt64 + (px (Zcu ss cl p) - oX).toInt64).toInt32, upd ny 0 (ZDX mA mB oY (sv (h - 1 - 0)).toInt64 (-(sv (h - 1 - 1)).toInt64) + (py (Zcu ss cl p) - oY).toInt64).toInt32) (zs_er hR' (by decide)) (fun PY hp => ?_)))
        refine ⟨hi, nm_r ev ⟨hi, nm_r ek (br_f (by decide) (br_f (by decide) (br_f (by decide) (br_t rfl ?_))))⟩⟩
        unfold wY_execute_245 wpY_operate
        refine y_check (by decide) hh hp48 (zst_k hS) rfl hmn (fun z => absurd hE z) (fun _ z => absurd z (by decide)) (fun _ _ _ => hYo hc _ (y_ckP (g := 0) rfl hh z1 hmn hp48 rfl (by omega) rfl (by omega) (by decide) (by decide) (by decide) (by decide) (by decide) (by decide) (by decide) (by decide) (by decide) (by decide) (by decide) (by decide) (by decide) (fun z => by omega) (fun _ _ => br_f (by decide) hp) (fun _ z => absurd (by rw [zor_0] at z; exact z) e)))
    · refine x_153e (by decide) (H 7 _ (nI t, 0, nI h, nI n, nI a, 7, -1, nI (s + 1), nI c, nI (0 + 1), 0, 0, 0 ||| zof (ZDX mA mB oX (sv (h - 1 - 1)).toInt64 (sv (h - 1 - 0)).toInt64 + (px (Zcu ss cl p) - oX).toInt64) (ZDX mA mB oY (sv (h - 1 - 0)).toInt64 (-(sv (h - 1 - 1)).toInt64) + (py (Zcu ss cl p) - oY).toInt64), tk, tv, dg, sk, sv, vk, vv, hw, fr, og, lf, st, la, fm, fc, gr, wi, mn, qx, qy, ss, cl, cp, upd nx 0 (ZDX mA mB oX (sv (h - 1 - 1)).toInt64 (sv (h - 1 - 0)).toInt64 + (px (Zcu ss cl p) - oX).toInt64).toInt32, upd ny 0 (ZDX mA mB oY (sv (h - 1 - 0)).toInt64 (-(sv (h - 1 - 1)).toInt64) + (py (Zcu ss cl p) - oY).toInt64).toInt32) (zs_er hR' (by decide)) (fun PY hp => ?_))
      refine ⟨hi, nm_r ev ⟨hi, nm_r ek (br_f (by decide) (br_f (by decide) (br_f (by decide) (br_t rfl ?_))))⟩⟩
      unfold wY_execute_245 wpY_operate
      refine y_check (by decide) hh hp48 (zst_k hS) rfl hmn (fun z => absurd hE z) (fun _ z => absurd z (by decide)) (fun _ _ _ => hYo hc _ (y_ckP (g := 0) rfl hh z1 hmn hp48 rfl (by omega) rfl (by omega) (by decide) (by decide) (by decide) (by decide) (by decide) (by decide) (by decide) (by decide) (by decide) (by decide) (by decide) (by decide) (by decide) (fun _ => br_f (by decide) hp) (fun z => by omega) (fun z => by omega)))
  · rw [if_neg hc]
    refine br_f (by decide) ?_
    refine pk_le (p + 1 + 2) 48 (fun q1 => x_off ?_) (fun q1 => ?_) (nI_add (p + 1) 2)
    · by_cases e : zof (ZDX mA mB oX (sv (h - 1 - 1)).toInt64 (sv (h - 1 - 0)).toInt64 + (px (Zcu ss cl p) - oX).toInt64) (ZDX mA mB oY (sv (h - 1 - 0)).toInt64 (-(sv (h - 1 - 1)).toInt64) + (py (Zcu ss cl p) - oY).toInt64) = 0
      · have hb := zof_0 e
        refine br_t e (br_f (by decide) (x_lastSub hP rfl ⟨ift, ift, ?_⟩))
        rw [eft]
        unfold wX_lineTo_71
        refine x_append rfl (by omega) (x_append rfl (by omega) (x_153 (n := 2) (by decide) rfl z1 rfl (H 0 _ (nI t, 0, nI (h - 2), nI n, nI a + 1, 0, -1, nI (s + 1), nI c, nI (1 + 1), 0, 1, (0 ||| zof (px (Zft ss p)).toInt64 (py (Zft ss p)).toInt64) ||| zof (ZDX mA mB oX (sv (h - 1 - 1)).toInt64 (sv (h - 1 - 0)).toInt64 + (px (Zcu ss cl p) - oX).toInt64) (ZDX mA mB oY (sv (h - 1 - 0)).toInt64 (-(sv (h - 1 - 1)).toInt64) + (py (Zcu ss cl p) - oY).toInt64), tk, tv, dg, sk, sv, vk, vv, hw, fr, og, lf, st, la, fm, fc, gr, wi, upd mn 0 (nI (p + 1 + 2)), zf qx (p + 1) (p + 1 + 2) (fun i => (upd (upd nx 0 ((px (Zft ss p)).toInt64).toInt32) 1 (ZDX mA mB oX (sv (h - 1 - 1)).toInt64 (sv (h - 1 - 0)).toInt64 + (px (Zcu ss cl p) - oX).toInt64).toInt32) (i - (p + 1))), zf qy (p + 1) (p + 1 + 2) (fun i => (upd (upd ny 0 ((py (Zft ss p)).toInt64).toInt32) 1 (ZDX mA mB oY (sv (h - 1 - 0)).toInt64 (-(sv (h - 1 - 1)).toInt64) + (py (Zcu ss cl p) - oY).toInt64).toInt32) (i - (p + 1))), zf ss (p + 1) (p + 1 + 2) (fun i => if (1 : Int32) ≠ 0 ∧ i = p + 1 then 1 else 0), zf cl (p + 1) (p + 1 + 2) (fun _ => 0), cp, upd (upd nx 0 ((px (Zft ss p)).toInt64).toInt32) 1 (ZDX mA mB oX (sv (h - 1 - 1)).toInt64 (sv (h - 1 - 0)).toInt64 + (px (Zcu ss cl p) - oX).toInt64).toInt32, upd (upd ny 0 ((py (Zft ss p)).toInt64).toInt32) 1 (ZDX mA mB oY (sv (h - 1 - 0)).toInt64 (-(sv (h - 1 - 1)).toInt64) + (py (Zcu ss cl p) - oY).toInt64).toInt32) (zs_ok ⟨hT, zst_le hS (by omega), hV, hF, hpn, zgs_path (q := p + 1 + 2) hG (zpt_extB hP (by omega) (by omega) (fun k hk => ⟨by rw [pk_un (by omega), pk_un (by omega)], by rw [pk_un (by omega), pk_un (by omega)], by rw [pk_un (by omega), pk_un (by omega)], zf_lo hk, zf_lo hk, zf_lo hk, zf_lo hk⟩) (fun k h1 h2 => ?_) ?_ ?_ (fun k h1 h2 => ?_)), zsv_up hSV zr_i zr_i zr_i zr_i zr_u (fun i hi => zf_hi (by omega)) (fun i hi => zf_hi (by omega)) (fun i hi => zf_hi (by omega)) (fun i hi => zf_hi (by omega)) zr_i⟩ rfl (nI_1 a) rfl rfl rfl rfl rfl rfl) (fun PY hp => ?_))))
        · rw [zf_in (by omega) (by omega), zf_in (by omega) (by omega), zf_in (by omega) (by omega)]
          by_cases ek : k = p + 1
          · subst ek
            rw [Nat.sub_self, pk_un (by omega), pk_us, pk_un (by omega), pk_us, pk_un (by omega), pk_us, pk_un (by omega), pk_us, Int32.toInt32_toInt64, Int32.toInt32_toInt64]
            exact ⟨rfl, rfl, rfl, f6, f7⟩
          · have ek : k = p + 1 + 1 := by omega
            subst ek
            rw [show p + 1 + 1 - (p + 1) = 1 by omega, pk_us, pk_us, pk_us, pk_us]
            exact ⟨rfl, rfl, rfl, hb.1, hb.2⟩
        · rw [zf_in (by omega) (by omega), if_pos ⟨by decide, rfl⟩]
        · rw [pk_un (by omega), pk_us]
        · have ek : k = p + 1 + 1 := by omega
          subst ek
          rw [zf_in (by omega) (by omega), if_neg (fun z => by omega), pk_us]
          exact ⟨rfl, rfl⟩
        · refine ⟨hi, nm_r ev ⟨hi, nm_r ek (br_f (by decide) (br_f (by decide) (br_f (by decide) (br_t rfl ?_))))⟩⟩
          unfold wY_execute_245 wpY_operate
          refine y_check (by decide) hh hp48 (zst_k hS) rfl hmn (fun z => absurd hE z) (fun _ z => absurd z (by decide)) (fun _ _ _ => hYc hc _ (y_ckP (g := 0) rfl hh z1 hmn hp48 rfl (by omega) rfl (by omega) (by decide) (by decide) (by decide) (by decide) (by decide) (by decide) (by decide) (by decide) (by decide) (by decide) (by decide) (by decide) (by decide) (fun z => by omega) (fun _ z => absurd (by rw [zor_0, hz0, zor_0]; exact e) z) (fun _ _ => br_t rfl ?_)))
          refine br_t (by decide) (br_t (by decide) (br_t (by decide) (br_t (by decide) (?_))))
          unfold wY_operate_71
          exact y_path (m := p + 1) (q := 2) (n := 2) (g := 0) (by decide) (by decide) rfl z1 rfl (by omega) (by omega) (Or.inr rfl) (by decide) rfl rfl hmn (by omega) (by omega) hp48 (fun z => absurd z (by decide)) (fun _ => br_f (by decide) (nm_e hp))
      · refine br_f e (x_153e (by decide) (H 5 _ (nI t, 0, nI h, nI n, nI a, 5, -1, nI (s + 1), nI c, nI (1 + 1), 0, 1, (0 ||| zof (px (Zft ss p)).toInt64 (py (Zft ss p)).toInt64) ||| zof (ZDX mA mB oX (sv (h - 1 - 1)).toInt64 (sv (h - 1 - 0)).toInt64 + (px (Zcu ss cl p) - oX).toInt64) (ZDX mA mB oY (sv (h - 1 - 0)).toInt64 (-(sv (h - 1 - 1)).toInt64) + (py (Zcu ss cl p) - oY).toInt64), tk, tv, dg, sk, sv, vk, vv, hw, fr, og, lf, st, la, fm, fc, gr, wi, mn, qx, qy, ss, cl, cp, upd (upd nx 0 ((px (Zft ss p)).toInt64).toInt32) 1 (ZDX mA mB oX (sv (h - 1 - 1)).toInt64 (sv (h - 1 - 0)).toInt64 + (px (Zcu ss cl p) - oX).toInt64).toInt32, upd (upd ny 0 ((py (Zft ss p)).toInt64).toInt32) 1 (ZDX mA mB oY (sv (h - 1 - 0)).toInt64 (-(sv (h - 1 - 1)).toInt64) + (py (Zcu ss cl p) - oY).toInt64).toInt32) (zs_er hR' (by decide)) (fun PY hp => ?_)))
        refine ⟨hi, nm_r ev ⟨hi, nm_r ek (br_f (by decide) (br_f (by decide) (br_f (by decide) (br_t rfl ?_))))⟩⟩
        unfold wY_execute_245 wpY_operate
        refine y_check (by decide) hh hp48 (zst_k hS) rfl hmn (fun z => absurd hE z) (fun _ z => absurd z (by decide)) (fun _ _ _ => hYc hc _ (y_ckP (g := 0) rfl hh z1 hmn hp48 rfl (by omega) rfl (by omega) (by decide) (by decide) (by decide) (by decide) (by decide) (by decide) (by decide) (by decide) (by decide) (by decide) (by decide) (by decide) (by decide) (fun z => by omega) (fun _ _ => br_f (by decide) hp) (fun _ z => absurd (by rw [zor_0, hz0, zor_0] at z; exact z) e)))
    · refine x_153e (by decide) (H 7 _ (nI t, 0, nI h, nI n, nI a, 7, -1, nI (s + 1), nI c, nI (1 + 1), 0, 1, (0 ||| zof (px (Zft ss p)).toInt64 (py (Zft ss p)).toInt64) ||| zof (ZDX mA mB oX (sv (h - 1 - 1)).toInt64 (sv (h - 1 - 0)).toInt64 + (px (Zcu ss cl p) - oX).toInt64) (ZDX mA mB oY (sv (h - 1 - 0)).toInt64 (-(sv (h - 1 - 1)).toInt64) + (py (Zcu ss cl p) - oY).toInt64), tk, tv, dg, sk, sv, vk, vv, hw, fr, og, lf, st, la, fm, fc, gr, wi, mn, qx, qy, ss, cl, cp, upd (upd nx 0 ((px (Zft ss p)).toInt64).toInt32) 1 (ZDX mA mB oX (sv (h - 1 - 1)).toInt64 (sv (h - 1 - 0)).toInt64 + (px (Zcu ss cl p) - oX).toInt64).toInt32, upd (upd ny 0 ((py (Zft ss p)).toInt64).toInt32) 1 (ZDX mA mB oY (sv (h - 1 - 0)).toInt64 (-(sv (h - 1 - 1)).toInt64) + (py (Zcu ss cl p) - oY).toInt64).toInt32) (zs_er hR' (by decide)) (fun PY hp => ?_))
      refine ⟨hi, nm_r ev ⟨hi, nm_r ek (br_f (by decide) (br_f (by decide) (br_f (by decide) (br_t rfl ?_))))⟩⟩
      unfold wY_execute_245 wpY_operate
      refine y_check (by decide) hh hp48 (zst_k hS) rfl hmn (fun z => absurd hE z) (fun _ z => absurd z (by decide)) (fun _ _ _ => hYc hc _ (y_ckP (g := 0) rfl hh z1 hmn hp48 rfl (by omega) rfl (by omega) (by decide) (by decide) (by decide) (by decide) (by decide) (by decide) (by decide) (by decide) (by decide) (by decide) (by decide) (by decide) (by decide) (fun _ => br_f (by decide) hp) (fun z => by omega) (fun z => by omega)))
end
