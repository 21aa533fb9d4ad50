section
variable {tc ob ps su ep sd bc mA mB oX oY gY wD pC sC yt yo yh yi ya ye yp ys yc nw gn bg wd : Int32} {tk tv cb sk sv vk vv bp br bh bn bs bl px py pm cr sn sx sy sm sp dg hw fr og lf st la fm fc gr wi mn qx qy ss cl cp nx ny : Nat → Int32}
theorem st_gray {t h n a c s pc : Nat} {PX : Int32 → SX → Prop} (hR : ZR t h n a c mA mB oX oY gY wD pC tk tv cb sk sv vk vv bp br bh bn bs bl px py pm cr sn sx sy sm sp hw fr og lf st la fm fc gr wi mn qx qy ss cl cp) (ha : a < t) (hk : tk a = 1) (hv : tv a = nI 26) (hpc : pC = nI pc) (hp48 : pc ≤ 48) (hE : ZE1 26 h sk pc = 0)
    (H : ∀ (e : Int32) (u' : SX) (v' : SY), ZStep a (s + 1) e u' v' → (∀ PY : SY → Prop, PY v' → wpY_execute PY (nI t, 0, nI h, nI n, nI a, 0, -1, nI (s + 1), nI c, nw, gn, bg, wd, tk, tv, dg, sk, sv, vk, vv, hw, fr, og, lf, st, la, fm, fc, gr, wi, mn, qx, qy, ss, cl, cp, nx, ny)) → PX e u') : wpX_execute PX (nI t, 0, nI a, nI s, -1, nI h, nI n, mA, mB, oX, oY, gY, wD, pC, nI c, tk, tv, cb, sk, sv, vk, vv, bp, br, bh, bn, bs, bl, px, py, pm, cr, sn, sx, sy, sm, sp, dg) (nI a) := by
  have hR' := hR
  obtain ⟨hT, hS, hV, hF, hPO, hG, hSV⟩ := hR
  have ht := hT.1
  have hh := hS.1
  have hmn := zg_mn hG hpc
  have hi : vp_in (nI a) 100 := vp_in_nI (by omega) (by omega)
  have e : (nI a).toNatClampNeg = a := zc_i (by omega)
  have ek : tk (nI a).toNatClampNeg = 1 := by rw [e]; exact hk
  have ev : tv (nI a).toNatClampNeg = nI 26 := by rw [e]; exact hv
  have hpn := po_next hPO ha (by rw [hk]; decide) (by rw [hk]; decide)
  obtain ⟨z1, z2, z3, z4⟩ := ze_0 hE
  have z1 : 1 ≤ h := z1
  have Yck : ∀ Q : Int32 → SY → Prop, (sv (h - 1 - 0) < 0 → Q 10 (nI t, 0, nI h, nI n, nI a, 0, -1, nI (s + 1), nI c, 0, 0, 0, 0, tk, tv, dg, sk, sv, vk, vv, hw, fr, og, lf, st, la, fm, fc, gr, wi, mn, qx, qy, ss, cl, cp, nx, ny)) ∧ (¬ sv (h - 1 - 0) < 0 → ((3 < sv (h - 1 - 0) → Q 10 (nI t, 0, nI h, nI n, nI a, 0, -1, nI (s + 1), nI c, 0, 0, 0, 0, tk, tv, dg, sk, sv, vk, vv, hw, fr, og, lf, st, la, fm, fc, gr, wi, mn, qx, qy, ss, cl, cp, nx, ny)) ∧ (¬ 3 < sv (h - 1 - 0) → Q 0 (nI t, 0, nI h, nI n, nI a, 0, -1, nI (s + 1), nI c, 0, 0, 0, 0, tk, tv, dg, sk, sv, vk, vv, hw, fr, og, lf, st, la, fm, fc, gr, wi, mn, qx, qy, ss, cl, cp, nx, ny)))) → wY_check_87 Q (nI 26) (nI (ztk 26)) (nI t) 0 (nI h) (nI n) (nI a) 0 (-1) (nI (s + 1)) (nI c) nw gn bg wd tk tv dg sk sv vk vv hw fr og lf st la fm fc gr wi mn qx qy ss cl cp nx ny := by
    intro Q k
    refine y_plan0 (by decide) (by decide) (by decide) (br_f (by decide) (br_f (by decide) (br_f (y_48 hmn hp48) (br_f (by decide) (br_f (by decide) (y_top (j := 0) rfl rfl hh (by omega) (br_f (by decide) (br_t rfl (br_c (fun q => k.1 q) (fun q => br_c (fun q2 => (k.2 q).1 q2) (fun q2 => ?_)))))))))))
    exact br_f (by decide) (br_f (by decide) (br_f (by decide) (br_f (by decide) (br_t rfl (br_f (by decide) (y_ck335n (by decide) (by decide) (by decide) (by decide) (by decide) (by decide) ((k.2 q).2 q2)))))))
  refine nm_r (nI_1 s) (nm_r (nI_1 a) ⟨hi, br_t ek ⟨hi, nm_r ev (x_oe0 (by decide) hh hp48 rfl hpc hE (br_t rfl (br_t (by decide) (br_f (by decide) (br_f (by decide) (br_f (by decide) (br_t (by decide) (br_t (by decide) ?_))))))))⟩⟩)
  unfold wX_execute_118 wpX_changeState
  refine x_operand (j := 0) rfl rfl hh (by omega) (br_f (by decide) (br_f (by decide) (br_f (by decide) (br_f (by decide) (br_f (by decide) (br_f (by decide) (br_f (by decide) (br_t rfl ?_))))))))
  by_cases q : sv (h - 1 - 0) < 0
  · refine br_t q (x_153e (by decide) (H 10 _ (nI t, 0, nI h, nI n, nI a, 10, -1, nI (s + 1), nI c, 0, 0, 0, 0, tk, tv, dg, sk, sv, vk, vv, hw, fr, og, lf, st, la, fm, fc, gr, wi, mn, qx, qy, ss, cl, cp, nx, ny) (zs_er hR' (by decide)) (fun PY hp => ?_)))
    refine ⟨hi, nm_r ev ⟨hi, nm_r ek (br_f (by decide) (br_f (by decide) (br_f (by decide) (br_t rfl ?_))))⟩⟩
    unfold wY_execute_245 wpY_operate
    refine y_check (by decide) hh hp48 (zst_k hS) rfl hmn (fun z => absurd hE z) (fun _ z => absurd z (by decide)) (fun _ _ _ => Yck _ (br_t q (br_f (by decide) hp)))
  · refine br_f q ?_
    by_cases q2 : sv (h - 1 - 0) ≤ 3
    · have q3 : ¬ 3 < sv (h - 1 - 0) := Int32.not_lt.mpr q2
      refine br_t q2 (x_153 (n := 1) (by decide) rfl z1 rfl (H 0 _ (nI t, 0, nI (h - 1), nI n, nI a + 1, 0, -1, nI (s + 1), nI c, 0, 0, 0, 0, tk, tv, dg, sk, sv, vk, vv, hw, fr, og, lf, st, la, fm, fc, upd gr 0 (sv (h - 1 - 0)), wi, mn, qx, qy, ss, cl, cp, nx, ny) (zs_ok ⟨hT, zst_le hS (by omega), hV, hF, hpn, zgs_gray hG, zsv_up hSV zr_i zr_i zr_u zr_i zr_i zr_i zr_i zr_i zr_i zr_i⟩ rfl (nI_1 a) rfl rfl rfl rfl rfl rfl) (fun PY hp => ?_)))
      refine ⟨hi, nm_r ev ⟨hi, nm_r ek (br_f (by decide) (br_f (by decide) (br_f (by decide) (br_t rfl ?_))))⟩⟩
      unfold wY_execute_245 wpY_operate
      refine y_check (by decide) hh hp48 (zst_k hS) rfl hmn (fun z => absurd hE z) (fun _ z => absurd z (by decide)) (fun _ _ _ => Yck _ (br_f q (br_f q3 (br_t rfl ?_))))
      refine br_t (by decide) (br_t (by decide) (br_f (by decide) (y_st1 (n := 1) (by decide) rfl (by omega) z1 hh rfl ?_)))
      exact br_f (by decide) (br_f (by decide) (br_f (by decide) (br_f (by decide) (br_f (by decide) (br_t rfl (nm_e (br_f (by decide) (y_s259 (n := 1) (by decide) rfl z1 rfl hp))))))))
    · have q3 : 3 < sv (h - 1 - 0) := Int32.not_le.mp q2
      refine br_f q2 (x_153e (by decide) (H 10 _ (nI t, 0, nI h, nI n, nI a, 10, -1, nI (s + 1), nI c, 0, 0, 0, 0, tk, tv, dg, sk, sv, vk, vv, hw, fr, og, lf, st, la, fm, fc, gr, wi, mn, qx, qy, ss, cl, cp, nx, ny) (zs_er hR' (by decide)) (fun PY hp => ?_)))
      refine ⟨hi, nm_r ev ⟨hi, nm_r ek (br_f (by decide) (br_f (by decide) (br_f (by decide) (br_t rfl ?_))))⟩⟩
      unfold wY_execute_245 wpY_operate
      refine y_check (by decide) hh hp48 (zst_k hS) rfl hmn (fun z => absurd hE z) (fun _ z => absurd z (by decide)) (fun _ _ _ => Yck _ (br_f q (br_t q3 (br_f (by decide) hp))))
theorem st_width {t h n a c s pc : Nat} {PX : Int32 → SX → Prop} (hR : ZR t h n a c mA mB oX oY gY wD pC tk tv cb sk sv vk vv bp br bh bn bs bl px py pm cr sn sx sy sm sp hw fr og lf st la fm fc gr wi mn qx qy ss cl cp) (ha : a < t) (hk : tk a = 1) (hv : tv a = nI 27) (hpc : pC = nI pc) (hp48 : pc ≤ 48) (hE : ZE1 27 h sk pc = 0)
    (H : ∀ (e : Int32) (u' : SX) (v' : SY), ZStep a (s + 1) e u' v' → (∀ PY : SY → Prop, PY v' → wpY_execute PY (nI t, 0, nI h, nI n, nI a, 0, -1, nI (s + 1), nI c, nw, gn, bg, wd, tk, tv, dg, sk, sv, vk, vv, hw, fr, og, lf, st, la, fm, fc, gr, wi, mn, qx, qy, ss, cl, cp, nx, ny)) → PX e u') : wpX_execute PX (nI t, 0, nI a, nI s, -1, nI h, nI n, mA, mB, oX, oY, gY, wD, pC, nI c, tk, tv, cb, sk, sv, vk, vv, bp, br, bh, bn, bs, bl, px, py, pm, cr, sn, sx, sy, sm, sp, dg) (nI a) := by
  have hR' := hR
  obtain ⟨hT, hS, hV, hF, hPO, hG, hSV⟩ := hR
  have ht := hT.1
  have hh := hS.1
  have hmn := zg_mn hG hpc
  have hi : vp_in (nI a) 100 := vp_in_nI (by omega) (by omega)
  have e : (nI a).toNatClampNeg = a := zc_i (by omega)
  have ek : tk (nI a).toNatClampNeg = 1 := by rw [e]; exact hk
  have ev : tv (nI a).toNatClampNeg = nI 27 := by rw [e]; exact hv
  have hpn := po_next hPO ha (by rw [hk]; decide) (by rw [hk]; decide)
  obtain ⟨z1, z2, z3, z4⟩ := ze_0 hE
  have z1 : 1 ≤ h := z1
  have Yck : ∀ Q : Int32 → SY → Prop, (sv (h - 1 - 0) < 1 → Q 10 (nI t, 0, nI h, nI n, nI a, 0, -1, nI (s + 1), nI c, 0, 0, 0, 0, tk, tv, dg, sk, sv, vk, vv, hw, fr, og, lf, st, la, fm, fc, gr, wi, mn, qx, qy, ss, cl, cp, nx, ny)) ∧ (¬ sv (h - 1 - 0) < 1 → ((6 < sv (h - 1 - 0) → Q 10 (nI t, 0, nI h, nI n, nI a, 0, -1, nI (s + 1), nI c, 0, 0, 0, 0, tk, tv, dg, sk, sv, vk, vv, hw, fr, og, lf, st, la, fm, fc, gr, wi, mn, qx, qy, ss, cl, cp, nx, ny)) ∧ (¬ 6 < sv (h - 1 - 0) → Q 0 (nI t, 0, nI h, nI n, nI a, 0, -1, nI (s + 1), nI c, 0, 0, 0, 0, tk, tv, dg, sk, sv, vk, vv, hw, fr, og, lf, st, la, fm, fc, gr, wi, mn, qx, qy, ss, cl, cp, nx, ny)))) → wY_check_87 Q (nI 27) (nI (ztk 27)) (nI t) 0 (nI h) (nI n) (nI a) 0 (-1) (nI (s + 1)) (nI c) nw gn bg wd tk tv dg sk sv vk vv hw fr og lf st la fm fc gr wi mn qx qy ss cl cp nx ny := by
    intro Q k
    refine y_plan0 (by decide) (by decide) (by decide) (br_f (by decide) (br_f (by decide) (br_f (y_48 hmn hp48) (br_f (by decide) (br_f (by decide) (y_top (j := 0) rfl rfl hh (by omega) (br_f (by decide) (br_f (by decide) (br_t rfl (br_c (fun q => k.1 q) (fun q => br_c (fun q2 => (k.2 q).1 q2) (fun q2 => ?_))))))))))))
    exact br_f (by decide) (br_f (by decide) (br_f (by decide) (br_t rfl (br_f (by decide) (y_ck335n (by decide) (by decide) (by decide) (by decide) (by decide) (by decide) ((k.2 q).2 q2))))))
  refine nm_r (nI_1 s) (nm_r (nI_1 a) ⟨hi, br_t ek ⟨hi, nm_r ev (x_oe0 (by decide) hh hp48 rfl hpc hE (br_t rfl (br_t (by decide) (br_f (by decide) (br_f (by decide) (br_f (by decide) (br_t (by decide) (br_t (by decide) ?_))))))))⟩⟩)
  unfold wX_execute_118 wpX_changeState
  refine x_operand (j := 0) rfl rfl hh (by omega) (br_f (by decide) (br_f (by decide) (br_f (by decide) (br_f (by decide) (br_f (by decide) (br_f (by decide) (br_f (by decide) (br_f (by decide) (br_t rfl ?_)))))))))
  by_cases q : sv (h - 1 - 0) < 1
  · refine br_t q (x_153e (by decide) (H 10 _ (nI t, 0, nI h, nI n, nI a, 10, -1, nI (s + 1), nI c, 0, 0, 0, 0, tk, tv, dg, sk, sv, vk, vv, hw, fr, og, lf, st, la, fm, fc, gr, wi, mn, qx, qy, ss, cl, cp, nx, ny) (zs_er hR' (by decide)) (fun PY hp => ?_)))
    refine ⟨hi, nm_r ev ⟨hi, nm_r ek (br_f (by decide) (br_f (by decide) (br_f (by decide) (br_t rfl ?_))))⟩⟩
    unfold wY_execute_245 wpY_operate
    refine y_check (by decide) hh hp48 (zst_k hS) rfl hmn (fun z => absurd hE z) (fun _ z => absurd z (by decide)) (fun _ _ _ => Yck _ (br_t q (br_f (by decide) hp)))
  · refine br_f q ?_
    by_cases q2 : sv (h - 1 - 0) ≤ 6
    · have q3 : ¬ 6 < sv (h - 1 - 0) := Int32.not_lt.mpr q2
      refine br_t q2 (x_153 (n := 1) (by decide) rfl z1 rfl (H 0 _ (nI t, 0, nI (h - 1), nI n, nI a + 1, 0, -1, nI (s + 1), nI c, 0, 0, 0, 0, tk, tv, dg, sk, sv, vk, vv, hw, fr, og, lf, st, la, fm, fc, gr, upd wi 0 (sv (h - 1 - 0)), mn, qx, qy, ss, cl, cp, nx, ny) (zs_ok ⟨hT, zst_le hS (by omega), hV, hF, hpn, zgs_width hG, zsv_up hSV zr_i zr_i zr_i zr_u zr_i zr_i zr_i zr_i zr_i zr_i⟩ rfl (nI_1 a) rfl rfl rfl rfl rfl rfl) (fun PY hp => ?_)))
      refine ⟨hi, nm_r ev ⟨hi, nm_r ek (br_f (by decide) (br_f (by decide) (br_f (by decide) (br_t rfl ?_))))⟩⟩
      unfold wY_execute_245 wpY_operate
      refine y_check (by decide) hh hp48 (zst_k hS) rfl hmn (fun z => absurd hE z) (fun _ z => absurd z (by decide)) (fun _ _ _ => Yck _ (br_f q (br_f q3 (br_t rfl ?_))))
      refine br_t (by decide) (br_t (by decide) (br_f (by decide) (y_st1 (n := 1) (by decide) rfl (by omega) z1 hh rfl ?_)))
      exact br_f (by decide) (br_f (by decide) (br_f (by decide) (br_f (by decide) (br_f (by decide) (br_f (by decide) (br_t rfl (nm_e (y_s259 (n := 1) (by decide) rfl z1 rfl hp))))))))
    · have q3 : 6 < sv (h - 1 - 0) := Int32.not_le.mp q2
      refine br_f q2 (x_153e (by decide) (H 10 _ (nI t, 0, nI h, nI n, nI a, 10, -1, nI (s + 1), nI c, 0, 0, 0, 0, tk, tv, dg, sk, sv, vk, vv, hw, fr, og, lf, st, la, fm, fc, gr, wi, mn, qx, qy, ss, cl, cp, nx, ny) (zs_er hR' (by decide)) (fun PY hp => ?_)))
      refine ⟨hi, nm_r ev ⟨hi, nm_r ek (br_f (by decide) (br_f (by decide) (br_f (by decide) (br_t rfl ?_))))⟩⟩
      unfold wY_execute_245 wpY_operate
      refine y_check (by decide) hh hp48 (zst_k hS) rfl hmn (fun z => absurd hE z) (fun _ z => absurd z (by decide)) (fun _ _ _ => Yck _ (br_f q (br_t q3 (br_f (by decide) hp))))
theorem zgr_turn {a b ox oy F : Int32} {f : Nat → Int32} (hg : ZGR a b ox oy f F) : ZGR (-b) a ox oy (upd (upd (upd (upd f 0 (f 1)) 1 (-f 0)) 3 ((upd (upd f 0 (f 1)) 1 (-f 0)) 4)) 4 (-f 3)) F := by
  obtain ⟨g0, g1, g2, g3, g4, g5, g6, g7, n, h1, h2, h3, hc⟩ := hg
  refine ⟨g1, ?_, g2, ?_, ?_, g5, g6, g7, n, h1, h2, h3, ?_⟩
  · show -f 0 = -a
    rw [g0]
  · show f 4 = a
    exact g4
  · show -f 3 = -b
    rw [g3]
  · rcases hc with ⟨rfl, rfl⟩ | ⟨rfl, rfl⟩ | ⟨rfl, rfl⟩ | ⟨rfl, rfl⟩
    · exact Or.inr (Or.inl ⟨by decide, rfl⟩)
    · exact Or.inr (Or.inr (Or.inl ⟨rfl, rfl⟩))
    · exact Or.inr (Or.inr (Or.inr ⟨by decide, rfl⟩))
    · exact Or.inl ⟨Int32.neg_neg, rfl⟩
theorem st_turn {t h n a c s pc : Nat} {PX : Int32 → SX → Prop} (hR : ZR t h n a c mA mB oX oY gY wD pC tk tv cb sk sv vk vv bp br bh bn bs bl px py pm cr sn sx sy sm sp hw fr og lf st la fm fc gr wi mn qx qy ss cl cp) (ha : a < t) (hk : tk a = 1) (hv : tv a = nI 25) (hpc : pC = nI pc) (hp48 : pc ≤ 48) (hE : ZE1 25 h sk pc = 0)
    (H : ∀ (e : Int32) (u' : SX) (v' : SY), ZStep a (s + 1) e u' v' → (∀ PY : SY → Prop, PY v' → wpY_execute PY (nI t, 0, nI h, nI n, nI a, 0, -1, nI (s + 1), nI c, nw, gn, bg, wd, tk, tv, dg, sk, sv, vk, vv, hw, fr, og, lf, st, la, fm, fc, gr, wi, mn, qx, qy, ss, cl, cp, nx, ny)) → PX e u') : wpX_execute PX (nI t, 0, nI a, nI s, -1, nI h, nI n, mA, mB, oX, oY, gY, wD, pC, nI c, tk, tv, cb, sk, sv, vk, vv, bp, br, bh, bn, bs, bl, px, py, pm, cr, sn, sx, sy, sm, sp, dg) (nI a) := by
  have hR' := hR
  obtain ⟨hT, hS, hV, hF, hPO, hG, hSV⟩ := hR
  have ht := hT.1
  have hh := hS.1
  have hmn := zg_mn hG hpc
  have hi : vp_in (nI a) 100 := vp_in_nI (by omega) (by omega)
  have e : (nI a).toNatClampNeg = a := zc_i (by omega)
  have ek : tk (nI a).toNatClampNeg = 1 := by rw [e]; exact hk
  have ev : tv (nI a).toNatClampNeg = nI 25 := by rw [e]; exact hv
  have hpn := po_next hPO ha (by rw [hk]; decide) (by rw [hk]; decide)
  obtain ⟨z1, z2, z3, z4⟩ := ze_0 hE
  have z1 : 0 ≤ h := z1
  refine nm_r (nI_1 s) (nm_r (nI_1 a) ⟨hi, br_t ek ⟨hi, nm_r ev (x_oe0 (by decide) hh hp48 rfl hpc hE (br_t rfl (br_t (by decide) (br_f (by decide) (br_f (by decide) (br_f (by decide) (br_t (by decide) (br_t (by decide) ?_))))))))⟩⟩)
  unfold wX_execute_118 wpX_changeState
  refine x_operandA (j := 0) rfl rfl hh (by omega) (fun _ => br_f (by decide) (br_f (by decide) (br_f (by decide) (br_f (by decide) (br_f (by decide) (br_f (by decide) (br_t rfl ?_)))))))
  refine nm_e (x_153 (n := 0) (by decide) rfl z1 rfl (H 0 _ (nI t, 0, nI (h - 0), nI n, nI a + 1, 0, -1, nI (s + 1), nI c, 0, 0, 0, 0, tk, tv, dg, sk, sv, vk, vv, hw, fr, og, lf, st, la, upd (upd (upd (upd fm 0 (fm 1)) 1 (-fm 0)) 3 ((upd (upd fm 0 (fm 1)) 1 (-fm 0)) 4)) 4 (-fm 3), fc, gr, wi, mn, qx, qy, ss, cl, cp, nx, ny) (zs_ok ⟨hT, zst_le hS (by omega), hV, hF, hpn, zgs_map hG (zgr_turn hG.1), zsv_up hSV (fun i hi => ?_) zr_i zr_i zr_i zr_i zr_i zr_i zr_i zr_i zr_i⟩ rfl (nI_1 a) rfl rfl rfl rfl rfl rfl) (fun PY hp => ?_)))
  · rw [pk_un (by omega), pk_un (by omega), pk_un (by omega), pk_un (by omega)]
  · refine ⟨hi, nm_r ev ⟨hi, nm_r ek (br_f (by decide) (br_f (by decide) (br_f (by decide) (br_t rfl ?_))))⟩⟩
    unfold wY_execute_245 wpY_operate
    refine y_check (by decide) hh hp48 (zst_k hS) rfl hmn (fun z => absurd hE z) (fun _ z => absurd z (by decide)) (fun _ _ _ => y_ck87 rfl hh z1 hmn hp48 (by decide) (by decide) (by decide) (by decide) (by decide) (by decide) (by decide) (by decide) (by decide) (by decide) (by decide) (y_ck335n (by decide) (by decide) (by decide) (by decide) (by decide) (by decide) (br_t rfl ?_)))
    refine br_t (by decide) (br_t (by decide) (br_f (by decide) (y_st0 (by decide) rfl ?_)))
    exact br_f (by decide) (br_f (by decide) (br_f (by decide) (br_f (by decide) (br_t rfl (nm_e (nm_e (nm_e (nm_e (nm_e (nm_e (br_f (by decide) (br_f (by decide) (y_s259 (n := 0) (by decide) rfl z1 rfl hp)))))))))))))
theorem st_newpath {t h n a c s pc : Nat} {PX : Int32 → SX → Prop} (hR : ZR t h n a c mA mB oX oY gY wD pC tk tv cb sk sv vk vv bp br bh bn bs bl px py pm cr sn sx sy sm sp hw fr og lf st la fm fc gr wi mn qx qy ss cl cp) (ha : a < t) (hk : tk a = 1) (hv : tv a = nI 28) (hpc : pC = nI pc) (hp48 : pc ≤ 48) (hE : ZE1 28 h sk pc = 0)
    (H : ∀ (e : Int32) (u' : SX) (v' : SY), ZStep a (s + 1) e u' v' → (∀ PY : SY → Prop, PY v' → wpY_execute PY (nI t, 0, nI h, nI n, nI a, 0, -1, nI (s + 1), nI c, nw, gn, bg, wd, tk, tv, dg, sk, sv, vk, vv, hw, fr, og, lf, st, la, fm, fc, gr, wi, mn, qx, qy, ss, cl, cp, nx, ny)) → PX e u') : wpX_execute PX (nI t, 0, nI a, nI s, -1, nI h, nI n, mA, mB, oX, oY, gY, wD, pC, nI c, tk, tv, cb, sk, sv, vk, vv, bp, br, bh, bn, bs, bl, px, py, pm, cr, sn, sx, sy, sm, sp, dg) (nI a) := by
  have hR' := hR
  obtain ⟨hT, hS, hV, hF, hPO, hG, hSV⟩ := hR
  have ht := hT.1
  have hh := hS.1
  have hmn := zg_mn hG hpc
  have hi : vp_in (nI a) 100 := vp_in_nI (by omega) (by omega)
  have e : (nI a).toNatClampNeg = a := zc_i (by omega)
  have ek : tk (nI a).toNatClampNeg = 1 := by rw [e]; exact hk
  have ev : tv (nI a).toNatClampNeg = nI 28 := by rw [e]; exact hv
  have hpn := po_next hPO ha (by rw [hk]; decide) (by rw [hk]; decide)
  obtain ⟨z1, z2, z3, z4⟩ := ze_0 hE
  have z1 : 0 ≤ h := z1
  refine nm_r (nI_1 s) (nm_r (nI_1 a) ⟨hi, br_t ek ⟨hi, nm_r ev (x_oe0 (by decide) hh hp48 rfl hpc hE (br_t rfl (br_t (by decide) (br_f (by decide) (br_f (by decide) (br_f (by decide) (br_t (by decide) (br_t (by decide) ?_))))))))⟩⟩)
  unfold wX_execute_118 wpX_changeState
  refine x_operandA (j := 0) rfl rfl hh (by omega) (fun _ => br_f (by decide) (br_f (by decide) (br_f (by decide) (br_f (by decide) (br_f (by decide) (br_f (by decide) (br_f (by decide) (br_f (by decide) (br_f (by decide) (br_t rfl ?_))))))))))
  refine x_153 (n := 0) (by decide) rfl z1 rfl (H 0 _ (nI t, 0, nI (h - 0), nI n, nI a + 1, 0, -1, nI (s + 1), nI c, 0, 0, 0, 0, tk, tv, dg, sk, sv, vk, vv, hw, fr, og, lf, st, la, fm, fc, gr, wi, upd mn 0 0, qx, qy, ss, cl, cp, nx, ny) (zs_ok ⟨hT, zst_le hS (by omega), hV, hF, hpn, zgs_path (q := 0) hG zpt_0, zsv_up hSV zr_i zr_i zr_i zr_i zr_u zr_i zr_i zr_i zr_i zr_i⟩ rfl (nI_1 a) rfl rfl rfl rfl rfl rfl) (fun PY hp => ?_))
  refine ⟨hi, nm_r ev ⟨hi, nm_r ek (br_f (by decide) (br_f (by decide) (br_f (by decide) (br_t rfl ?_))))⟩⟩
  unfold wY_execute_245 wpY_operate
  refine y_check (by decide) hh hp48 (zst_k hS) rfl hmn (fun z => absurd hE z) (fun _ z => absurd z (by decide)) (fun _ _ _ => y_ck87 rfl hh z1 hmn hp48 (by decide) (by decide) (by decide) (by decide) (by decide) (by decide) (by decide) (by decide) (by decide) (by decide) (by decide) (y_ck335n (by decide) (by decide) (by decide) (by decide) (by decide) (by decide) (br_t rfl ?_)))
  refine br_t (by decide) (br_t (by decide) (br_t (by decide) (br_t (by decide) ?_)))
  unfold wY_operate_71
  refine br_t rfl (nm_e ⟨1, br_t (by decide) (y_takes (by decide) (nm_r (pk_sub (b := 0) z1) (br_f (by decide) (br_f (by decide) (br_f (by decide) (nm_e hp))))))⟩)
theorem y_p165 {post : SY → Prop} {op : Int32} (h42 : op ≠ 42) (k : post (yt, yo, yh, yi, ya + 1, ye, yp, ys, yc, nw, gn, bg, wd, tk, tv, dg, sk, sv, vk, vv, hw, fr, og, lf, st, la, fm, fc, gr, wi, mn, qx, qy, ss, cl, cp, nx, ny)) : ∃ q, wY_paint_165 post op yt yo yh yi ya ye yp ys yc nw gn bg wd q 0 tk tv dg sk sv vk vv hw fr og lf st la fm fc gr wi mn qx qy ss cl cp nx ny := ⟨1, br_f (by decide) (br_f h42 (nm_e k))⟩
theorem y_p137 {post : SY → Prop} : ∀ (d j : Nat) (cp : Nat → Int32), j + d = 576 → post (yt, yo, yh, yi, ya + 1, ye, yp, ys, yc, nw, gn, bg, wd, tk, tv, dg, sk, sv, vk, vv, hw, fr, og, lf, st, la, fm, fc, gr, wi, mn, qx, qy, ss, cl, zf cp j 576 (fun _ => 1), nx, ny) → wY_paint_137 post 41 yt yo yh yi ya ye yp ys yc nw gn bg wd (d + 1) (nI j) tk tv dg sk sv vk vv hw fr og lf st la fm fc gr wi mn qx qy ss cl cp nx ny := by
  intro d
  induction d with
  | zero =>
    intro j cp hj k
    have : j = 576 := by omega
    subst this
    rw [zf_z] at k
    exact ql_t 576 576 (by omega) (y_p165 (by decide) k)
  | succ d ih =>
    intro j cp hj k
    refine ql_f 576 j (by omega) (br_t rfl ⟨vp_in_nI (by omega) (by omega), nm_r (congrArg (fun q => upd cp q 1) (zc_i (by omega))) (nm_r (nI_1 j) (ih (j + 1) _ (by omega) ?_))⟩)
    rw [zf_s (g := fun _ => 1) (by omega)]
    exact k
theorem y_p165w {post : SY → Prop} : ∀ (d j : Nat) (dg : Nat → Int32), j + d = 576 → post (yt, yo, yh, yi, ya + 1, ye, yp, ys, yc, nw, gn, bg, wd, tk, tv, zf dg j 576 (fun _ => 0), sk, sv, vk, vv, hw, fr, og, lf, st, la, fm, fc, gr, wi, mn, qx, qy, ss, cl, cp, nx, ny) → wY_paint_165 post 42 yt yo yh yi ya ye yp ys yc nw gn bg wd (d + 1) (nI j) tk tv dg sk sv vk vv hw fr og lf st la fm fc gr wi mn qx qy ss cl cp nx ny := by
  intro d
  induction d with
  | zero =>
    intro j dg hj k
    have : j = 576 := by omega
    subst this
    rw [zf_z] at k
    exact ql_t 576 576 (by omega) (nm_e k)
  | succ d ih =>
    intro j dg hj k
    refine ql_f 576 j (by omega) (br_t rfl ⟨vp_in_nI (by omega) (by omega), nm_r (congrArg (fun q => upd dg q 0) (zc_i (by omega))) (nm_r (nI_1 j) (ih (j + 1) _ (by omega) ?_))⟩)
    rw [zf_s (g := fun _ => 0) (by omega)]
    exact k
theorem x_wipe_l {post : SX → Prop} : ∀ (d j : Nat) (dg : Nat → Int32), j + d = 576 → post (tc, ob, ps, su, ep, sd, bc, mA, mB, oX, oY, gY, wD, pC, sC, tk, tv, cb, sk, sv, vk, vv, bp, br, bh, bn, bs, bl, px, py, pm, cr, sn, sx, sy, sm, sp, zf dg j 576 (fun _ => 0)) → wX_wipePage_2 post tc ob ps su ep sd bc mA mB oX oY gY wD pC sC (d + 1) (nI j) tk tv cb sk sv vk vv bp br bh bn bs bl px py pm cr sn sx sy sm sp dg := by
  intro d
  induction d with
  | zero =>
    intro j dg hj k
    have : j = 576 := by omega
    subst this
    rw [zf_z] at k
    exact ql_t 576 576 (by omega) k
  | succ d ih =>
    intro j dg hj k
    refine ql_f 576 j (by omega) ⟨vp_in_nI (by omega) (by omega), nm_r (congrArg (fun q => upd dg q 0) (zc_i (by omega))) (nm_r (nI_1 j) (ih (j + 1) _ (by omega) ?_))⟩
    rw [zf_s (g := fun _ => 0) (by omega)]
    exact k
theorem st_initclip {t h n a c s pc : Nat} {PX : Int32 → SX → Prop} (hR : ZR t h n a c mA mB oX oY gY wD pC tk tv cb sk sv vk vv bp br bh bn bs bl px py pm cr sn sx sy sm sp hw fr og lf st la fm fc gr wi mn qx qy ss cl cp) (ha : a < t) (hk : tk a = 1) (hv : tv a = nI 41) (hpc : pC = nI pc) (hp48 : pc ≤ 48) (hE : ZE1 41 h sk pc = 0)
    (H : ∀ (e : Int32) (u' : SX) (v' : SY), ZStep a (s + 1) e u' v' → (∀ PY : SY → Prop, PY v' → wpY_execute PY (nI t, 0, nI h, nI n, nI a, 0, -1, nI (s + 1), nI c, nw, gn, bg, wd, tk, tv, dg, sk, sv, vk, vv, hw, fr, og, lf, st, la, fm, fc, gr, wi, mn, qx, qy, ss, cl, cp, nx, ny)) → PX e u') : wpX_execute PX (nI t, 0, nI a, nI s, -1, nI h, nI n, mA, mB, oX, oY, gY, wD, pC, nI c, tk, tv, cb, sk, sv, vk, vv, bp, br, bh, bn, bs, bl, px, py, pm, cr, sn, sx, sy, sm, sp, dg) (nI a) := by
  have hR' := hR
  obtain ⟨hT, hS, hV, hF, hPO, hG, hSV⟩ := hR
  have ht := hT.1
  have hh := hS.1
  have hmn := zg_mn hG hpc
  have hi : vp_in (nI a) 100 := vp_in_nI (by omega) (by omega)
  have e : (nI a).toNatClampNeg = a := zc_i (by omega)
  have ek : tk (nI a).toNatClampNeg = 1 := by rw [e]; exact hk
  have ev : tv (nI a).toNatClampNeg = nI 41 := by rw [e]; exact hv
  have hpn := po_next hPO ha (by rw [hk]; decide) (by rw [hk]; decide)
  obtain ⟨z1, z2, z3, z4⟩ := ze_0 hE
  have z1 : 0 ≤ h := z1
  refine nm_r (nI_1 s) (nm_r (nI_1 a) ⟨hi, br_t ek ⟨hi, nm_r ev (x_oe0 (by decide) hh hp48 rfl hpc hE (br_t rfl (br_t (by decide) (br_f (by decide) (br_f (by decide) (br_f (by decide) (br_t (by decide) (br_f (by decide) (br_t rfl ?_)))))))))⟩⟩)
  unfold wX_execute_118 wpX_changeState
  refine x_operandA (j := 0) rfl rfl hh (by omega) (fun _ => br_f (by decide) (br_f (by decide) (br_f (by decide) (br_f (by decide) (br_f (by decide) (br_f (by decide) (br_f (by decide) (br_f (by decide) (br_f (by decide) (br_f (by decide) (br_f (by decide) (br_f (by decide) (br_f (by decide) (br_f (by decide) (br_f (by decide) (br_f (by decide) (br_f (by decide) (br_f (by decide) (br_f (by decide) (br_f (by decide) (br_f (by decide) (br_f (by decide) (br_t rfl ?_)))))))))))))))))))))))
  refine x_openClip (x_153 (n := 0) (by decide) rfl z1 rfl (H 0 _ (nI t, 0, nI h, nI n, nI a + 1, 0, -1, nI (s + 1), nI c, 0, 0, 0, 0, tk, tv, dg, sk, sv, vk, vv, hw, fr, og, lf, st, la, fm, fc, gr, wi, mn, qx, qy, ss, cl, zf cp 0 576 (fun _ => 1), nx, ny) (zs_ok ⟨hT, hS, hV, hF, hpn, zgs_clip hG zcp_full, zsv_up hSV zr_i zr_i zr_i zr_i zr_i zr_i zr_i zr_i zr_i (fun i hi => zf_hi (by omega))⟩ rfl (nI_1 a) rfl rfl rfl rfl rfl rfl) (fun PY hp => ?_)))
  refine ⟨hi, nm_r ev ⟨hi, nm_r ek (br_f (by decide) (br_f (by decide) (br_f (by decide) (br_t rfl ?_))))⟩⟩
  unfold wY_execute_245 wpY_operate
  refine y_check (by decide) hh hp48 (zst_k hS) rfl hmn (fun z => absurd hE z) (fun _ z => absurd z (by decide)) (fun _ _ _ => y_ck87 rfl hh z1 hmn hp48 (by decide) (by decide) (by decide) (by decide) (by decide) (by decide) (by decide) (by decide) (by decide) (by decide) (by decide) (y_ck335n (by decide) (by decide) (by decide) (by decide) (by decide) (by decide) (br_t rfl ?_)))
  refine br_t (by decide) (br_t (by decide) (br_t (by decide) (br_f (by decide) (br_f (by decide) ?_))))
  exact br_f (by decide) (br_t (by decide) (br_t (by decide) ⟨577, y_p137 576 0 _ rfl hp⟩))
theorem st_wipe {t h n a c s pc : Nat} {PX : Int32 → SX → Prop} (hR : ZR t h n a c mA mB oX oY gY wD pC tk tv cb sk sv vk vv bp br bh bn bs bl px py pm cr sn sx sy sm sp hw fr og lf st la fm fc gr wi mn qx qy ss cl cp) (ha : a < t) (hk : tk a = 1) (hv : tv a = nI 42) (hpc : pC = nI pc) (hp48 : pc ≤ 48) (hE : ZE1 42 h sk pc = 0)
    (H : ∀ (e : Int32) (u' : SX) (v' : SY), ZStep a (s + 1) e u' v' → (∀ PY : SY → Prop, PY v' → wpY_execute PY (nI t, 0, nI h, nI n, nI a, 0, -1, nI (s + 1), nI c, nw, gn, bg, wd, tk, tv, dg, sk, sv, vk, vv, hw, fr, og, lf, st, la, fm, fc, gr, wi, mn, qx, qy, ss, cl, cp, nx, ny)) → PX e u') : wpX_execute PX (nI t, 0, nI a, nI s, -1, nI h, nI n, mA, mB, oX, oY, gY, wD, pC, nI c, tk, tv, cb, sk, sv, vk, vv, bp, br, bh, bn, bs, bl, px, py, pm, cr, sn, sx, sy, sm, sp, dg) (nI a) := by
  have hR' := hR
  obtain ⟨hT, hS, hV, hF, hPO, hG, hSV⟩ := hR
  have ht := hT.1
  have hh := hS.1
  have hmn := zg_mn hG hpc
  have hi : vp_in (nI a) 100 := vp_in_nI (by omega) (by omega)
  have e : (nI a).toNatClampNeg = a := zc_i (by omega)
  have ek : tk (nI a).toNatClampNeg = 1 := by rw [e]; exact hk
  have ev : tv (nI a).toNatClampNeg = nI 42 := by rw [e]; exact hv
  have hpn := po_next hPO ha (by rw [hk]; decide) (by rw [hk]; decide)
  obtain ⟨z1, z2, z3, z4⟩ := ze_0 hE
  have z1 : 0 ≤ h := z1
  refine nm_r (nI_1 s) (nm_r (nI_1 a) ⟨hi, br_t ek ⟨hi, nm_r ev (x_oe0 (by decide) hh hp48 rfl hpc hE (br_t rfl (br_t (by decide) (br_f (by decide) (br_f (by decide) (br_f (by decide) (br_t (by decide) (br_f (by decide) (br_f (by decide) (br_t rfl ?_))))))))))⟩⟩)
  unfold wX_execute_118 wpX_changeState
  refine x_operandA (j := 0) rfl rfl hh (by omega) (fun _ => br_f (by decide) (br_t (by decide) ?_))
  refine ⟨577, x_wipe_l 576 0 _ rfl (x_153 (n := 0) (by decide) rfl z1 rfl (H 0 _ (nI t, 0, nI h, nI n, nI a + 1, 0, -1, nI (s + 1), nI c, 0, 0, 0, 0, tk, tv, zf dg 0 576 (fun _ => 0), sk, sv, vk, vv, hw, fr, og, lf, st, la, fm, fc, gr, wi, mn, qx, qy, ss, cl, cp, nx, ny) (zs_ok ⟨hT, hS, hV, hF, hpn, hG, hSV⟩ rfl (nI_1 a) rfl rfl rfl rfl rfl rfl) (fun PY hp => ?_)))⟩
  refine ⟨hi, nm_r ev ⟨hi, nm_r ek (br_f (by decide) (br_f (by decide) (br_f (by decide) (br_t rfl ?_))))⟩⟩
  unfold wY_execute_245 wpY_operate
  refine y_check (by decide) hh hp48 (zst_k hS) rfl hmn (fun z => absurd hE z) (fun _ z => absurd z (by decide)) (fun _ _ _ => y_ck87 rfl hh z1 hmn hp48 (by decide) (by decide) (by decide) (by decide) (by decide) (by decide) (by decide) (by decide) (by decide) (by decide) (by decide) (y_ck335n (by decide) (by decide) (by decide) (by decide) (by decide) (by decide) (br_t rfl ?_)))
  refine br_t (by decide) (br_t (by decide) (br_t (by decide) (br_f (by decide) (br_f (by decide) ?_))))
  exact br_f (by decide) (br_t (by decide) (br_t (by decide) ⟨1, br_f (by decide) (br_f (by decide) ⟨577, y_p165w 576 0 _ rfl hp⟩)⟩))
theorem zgr_scale {a b ox oy F : Int32} {f : Nat → Int32} {m : Nat} (hg : ZGR a b ox oy f F) (h1 : 1 ≤ m) (h4 : m ≤ 4) (h64 : F * nI m ≤ 64) : ZGR (a * nI m) (b * nI m) ox oy (upd (upd (upd (upd f 0 (f 0 * nI m)) 1 (f 1 * nI m)) 3 (f 3 * nI m)) 4 (f 4 * nI m)) (F * nI m) := by
  obtain ⟨g0, g1, g2, g3, g4, g5, g6, g7, n, h1', h2', h3', hc⟩ := hg
  subst h3'
  rw [pk_mul] at h64
  have hle : n * m ≤ 64 := by
    have e : n * m ≤ 256 := Nat.le_trans (Nat.mul_le_mul h2' h4) (by omega)
    exact (nI_leI (b := 64) (by omega) (by omega)).mp h64
  have hge : 1 ≤ n * m := Nat.le_trans h1' (Nat.le_mul_of_pos_right n h1)
  refine ⟨?_, ?_, g2, ?_, ?_, g5, g6, g7, n * m, hge, hle, pk_mul n m, ?_⟩
  · show f 0 * nI m = _
    rw [g0]
  · show f 1 * nI m = _
    rw [g1]; grind
  · show f 3 * nI m = _
    rw [g3]
  · show f 4 * nI m = _
    rw [g4]
  · rcases hc with ⟨rfl, rfl⟩ | ⟨rfl, rfl⟩ | ⟨rfl, rfl⟩ | ⟨rfl, rfl⟩
    · exact Or.inl ⟨pk_mul n m, Int32.zero_mul⟩
    · exact Or.inr (Or.inl ⟨Int32.zero_mul, pk_mul n m⟩)
    · exact Or.inr (Or.inr (Or.inl ⟨by rw [← pk_mul]; grind, Int32.zero_mul⟩))
    · exact Or.inr (Or.inr (Or.inr ⟨Int32.zero_mul, by rw [← pk_mul]; grind⟩))
theorem y_scale_l {post : SY → Prop} {op x : Int32} (k : wY_state_171 post op x yt yo yh yi ya ye yp ys yc nw gn bg wd tk tv dg sk sv vk vv hw fr og lf st la (upd (upd (upd (upd fm 0 (fm 0 * x)) 1 (fm 1 * x)) 3 (fm 3 * x)) 4 (fm 4 * x)) fc gr wi mn qx qy ss cl cp nx ny) : ∃ q, wY_state_142 post op x yt yo yh yi ya ye yp ys yc nw gn bg wd q 0 tk tv dg sk sv vk vv hw fr og lf st la fm fc gr wi mn qx qy ss cl cp nx ny := by
  exact ⟨7, br_f (by decide) ⟨(by decide), br_f (by decide) ⟨vp_in_nI (n := 0) (by omega) (by omega), vp_in_nI (n := 0) (by omega) (by omega), nm_r (show _ = upd fm 0 (fm 0 * x) from rfl) (nm_r (show (0 : Int32) + 1 = 1 from rfl) (br_f (by decide) ⟨(by decide), br_f (by decide) ⟨vp_in_nI (n := 1) (by omega) (by omega), vp_in_nI (n := 1) (by omega) (by omega), nm_r (show _ = upd (upd fm 0 (fm 0 * x)) 1 (fm 1 * x) from rfl) (nm_r (show (1 : Int32) + 1 = 2 from rfl) (br_f (by decide) ⟨(by decide), br_t (by decide) (nm_r (show (2 : Int32) + 1 = 3 from rfl) (br_f (by decide) ⟨(by decide), br_f (by decide) ⟨vp_in_nI (n := 3) (by omega) (by omega), vp_in_nI (n := 3) (by omega) (by omega), nm_r (show _ = upd (upd (upd fm 0 (fm 0 * x)) 1 (fm 1 * x)) 3 (fm 3 * x) from rfl) (nm_r (show (3 : Int32) + 1 = 4 from rfl) (br_f (by decide) ⟨(by decide), br_f (by decide) ⟨vp_in_nI (n := 4) (by omega) (by omega), vp_in_nI (n := 4) (by omega) (by omega), nm_r (show _ = upd (upd (upd (upd fm 0 (fm 0 * x)) 1 (fm 1 * x)) 3 (fm 3 * x)) 4 (fm 4 * x) from rfl) (nm_r (show (4 : Int32) + 1 = 5 from rfl) (br_f (by decide) ⟨(by decide), br_t (by decide) (nm_r (show (5 : Int32) + 1 = 6 from rfl) (br_t (by decide) k))⟩))⟩⟩))⟩⟩))⟩))⟩⟩))⟩⟩⟩
theorem st_scale {t h n a c s pc : Nat} {PX : Int32 → SX → Prop} (hR : ZR t h n a c mA mB oX oY gY wD pC tk tv cb sk sv vk vv bp br bh bn bs bl px py pm cr sn sx sy sm sp hw fr og lf st la fm fc gr wi mn qx qy ss cl cp) (ha : a < t) (hk : tk a = 1) (hv : tv a = nI 24) (hpc : pC = nI pc) (hp48 : pc ≤ 48) (hE : ZE1 24 h sk pc = 0)
    (H : ∀ (e : Int32) (u' : SX) (v' : SY), ZStep a (s + 1) e u' v' → (∀ PY : SY → Prop, PY v' → wpY_execute PY (nI t, 0, nI h, nI n, nI a, 0, -1, nI (s + 1), nI c, nw, gn, bg, wd, tk, tv, dg, sk, sv, vk, vv, hw, fr, og, lf, st, la, fm, fc, gr, wi, mn, qx, qy, ss, cl, cp, nx, ny)) → PX e u') : wpX_execute PX (nI t, 0, nI a, nI s, -1, nI h, nI n, mA, mB, oX, oY, gY, wD, pC, nI c, tk, tv, cb, sk, sv, vk, vv, bp, br, bh, bn, bs, bl, px, py, pm, cr, sn, sx, sy, sm, sp, dg) (nI a) := by
  have hR' := hR
  obtain ⟨hT, hS, hV, hF, hPO, hG, hSV⟩ := hR
  have ht := hT.1
  have hh := hS.1
  have hmn := zg_mn hG hpc
  have hi : vp_in (nI a) 100 := vp_in_nI (by omega) (by omega)
  have e : (nI a).toNatClampNeg = a := zc_i (by omega)
  have ek : tk (nI a).toNatClampNeg = 1 := by rw [e]; exact hk
  have ev : tv (nI a).toNatClampNeg = nI 24 := by rw [e]; exact hv
  have hpn := po_next hPO ha (by rw [hk]; decide) (by rw [hk]; decide)
  obtain ⟨z1, z2, z3, z4⟩ := ze_0 hE
  have z1 : 1 ≤ h := z1
  have Yck : ∀ Q : Int32 → SY → Prop, (sv (h - 1 - 0) < 1 → Q 10 (nI t, 0, nI h, nI n, nI a, 0, -1, nI (s + 1), nI c, 0, 0, 0, 0, tk, tv, dg, sk, sv, vk, vv, hw, fr, og, lf, st, la, fm, fc, gr, wi, mn, qx, qy, ss, cl, cp, nx, ny)) ∧ (¬ sv (h - 1 - 0) < 1 → ((4 < sv (h - 1 - 0) → Q 10 (nI t, 0, nI h, nI n, nI a, 0, -1, nI (s + 1), nI c, 0, 0, 0, 0, tk, tv, dg, sk, sv, vk, vv, hw, fr, og, lf, st, la, fm, fc, gr, wi, mn, qx, qy, ss, cl, cp, nx, ny)) ∧ (¬ 4 < sv (h - 1 - 0) → ((64 < fc 0 * sv (h - 1 - 0) → Q 5 (nI t, 0, nI h, nI n, nI a, 0, -1, nI (s + 1), nI c, 0, 0, 0, 0, tk, tv, dg, sk, sv, vk, vv, hw, fr, og, lf, st, la, fm, fc, gr, wi, mn, qx, qy, ss, cl, cp, nx, ny)) ∧ (¬ 64 < fc 0 * sv (h - 1 - 0) → Q 0 (nI t, 0, nI h, nI n, nI a, 0, -1, nI (s + 1), nI c, 0, 0, 0, 0, tk, tv, dg, sk, sv, vk, vv, hw, fr, og, lf, st, la, fm, fc, gr, wi, mn, qx, qy, ss, cl, cp, nx, ny)))))) → wY_check_87 Q (nI 24) (nI (ztk 24)) (nI t) 0 (nI h) (nI n) (nI a) 0 (-1) (nI (s + 1)) (nI c) nw gn bg wd tk tv dg sk sv vk vv hw fr og lf st la fm fc gr wi mn qx qy ss cl cp nx ny := by
    intro Q k
    refine y_plan0 (by decide) (by decide) (by decide) (br_f (by decide) (br_f (by decide) (br_f (y_48 hmn hp48) (br_f (by decide) (br_f (by decide) (y_top (j := 0) rfl rfl hh (by omega) (br_t rfl (br_c (fun q => k.1 q) (fun q => br_c (fun q2 => (k.2 q).1 q2) (fun q2 => ?_))))))))))
    exact br_f (by decide) (br_f (by decide) (br_f (by decide) (br_f (by decide) (br_t rfl (br_c (fun q3 => ((k.2 q).2 q2).1 q3) (fun q3 => br_t rfl (br_f (by decide) (y_ck335n (by decide) (by decide) (by decide) (by decide) (by decide) (by decide) (((k.2 q).2 q2).2 q3)))))))))
  refine nm_r (nI_1 s) (nm_r (nI_1 a) ⟨hi, br_t ek ⟨hi, nm_r ev (x_oe0 (by decide) hh hp48 rfl hpc hE (br_t rfl (br_t (by decide) (br_f (by decide) (br_f (by decide) (br_f (by decide) (br_t (by decide) (br_t (by decide) ?_))))))))⟩⟩)
  unfold wX_execute_118 wpX_changeState
  refine x_operand (j := 0) rfl rfl hh (by omega) (br_f (by decide) (br_f (by decide) (br_f (by decide) (br_f (by decide) (br_f (by decide) (br_t rfl ?_))))))
  unfold wpX_scaleMap
  by_cases q : sv (h - 1 - 0) < 1
  · refine br_t q (x_153e (by decide) (H 10 _ (nI t, 0, nI h, nI n, nI a, 10, -1, nI (s + 1), nI c, 0, 0, 0, 0, tk, tv, dg, sk, sv, vk, vv, hw, fr, og, lf, st, la, fm, fc, gr, wi, mn, qx, qy, ss, cl, cp, nx, ny) (zs_er hR' (by decide)) (fun PY hp => ?_)))
    refine ⟨hi, nm_r ev ⟨hi, nm_r ek (br_f (by decide) (br_f (by decide) (br_f (by decide) (br_t rfl ?_))))⟩⟩
    unfold wY_execute_245 wpY_operate
    refine y_check (by decide) hh hp48 (zst_k hS) rfl hmn (fun z => absurd hE z) (fun _ z => absurd z (by decide)) (fun _ _ _ => Yck _ (br_t q (br_f (by decide) hp)))
  · refine br_f q ?_
    by_cases q2 : sv (h - 1 - 0) ≤ 4
    · have q3 : ¬ 4 < sv (h - 1 - 0) := Int32.not_lt.mpr q2
      obtain ⟨m, hm1, hm4, em⟩ : ∃ m : Nat, 1 ≤ m ∧ m ≤ 4 ∧ sv (h - 1 - 0) = nI m := by
        rcases pk_ix (sv (h - 1 - 0)) (n := 5) (by omega) with z | z | ⟨m, hm, z⟩
        · exact absurd (Int32.lt_trans z (by decide)) q
        · exact absurd (Int32.le_trans z q2) (by decide)
        · refine ⟨m, ?_, by omega, z⟩
          rcases Nat.lt_or_ge 0 m with g | g
          · exact g
          · exfalso
            apply q
            rw [z, show m = 0 by omega]
            decide
      refine br_t q2 (x_factor hG.1 ?_)
      by_cases q4 : fc 0 * sv (h - 1 - 0) ≤ 64
      · have q5 : ¬ 64 < fc 0 * sv (h - 1 - 0) := Int32.not_lt.mpr q4
        refine br_t q4 (nm_e (nm_e (x_153 (n := 1) (by decide) rfl z1 rfl (H 0 _ (nI t, 0, nI (h - 1), nI n, nI a + 1, 0, -1, nI (s + 1), nI c, 0, 0, 0, 0, tk, tv, dg, sk, sv, vk, vv, hw, fr, og, lf, st, la, upd (upd (upd (upd fm 0 (fm 0 * sv (h - 1 - 0))) 1 (fm 1 * sv (h - 1 - 0))) 3 (fm 3 * sv (h - 1 - 0))) 4 (fm 4 * sv (h - 1 - 0)), upd fc 0 (fc 0 * sv (h - 1 - 0)), gr, wi, mn, qx, qy, ss, cl, cp, nx, ny) (zs_ok ⟨hT, zst_le hS (by omega), hV, hF, hpn, ?_, zsv_up hSV (fun i hi => ?_) zr_u zr_i zr_i zr_i zr_i zr_i zr_i zr_i zr_i⟩ rfl (nI_1 a) rfl rfl rfl rfl rfl rfl) (fun PY hp => ?_)))))
        · rw [em] at q4 ⊢
          exact zgs_map hG (zgr_scale hG.1 hm1 hm4 q4)
        · rw [pk_un (by omega), pk_un (by omega), pk_un (by omega), pk_un (by omega)]
        · refine ⟨hi, nm_r ev ⟨hi, nm_r ek (br_f (by decide) (br_f (by decide) (br_f (by decide) (br_t rfl ?_))))⟩⟩
          unfold wY_execute_245 wpY_operate
          refine y_check (by decide) hh hp48 (zst_k hS) rfl hmn (fun z => absurd hE z) (fun _ z => absurd z (by decide)) (fun _ _ _ => Yck _ (br_f q (br_f q3 (br_f q5 (br_t rfl ?_)))))
          refine br_t (by decide) (br_t (by decide) (br_f (by decide) (y_st1 (n := 1) (by decide) rfl (by omega) z1 hh rfl ?_)))
          exact br_f (by decide) (br_f (by decide) (br_f (by decide) (br_t rfl (nm_e (y_scale_l (br_f (by decide) (br_f (by decide) (br_f (by decide) (y_s259 (n := 1) (by decide) rfl z1 rfl hp)))))))))
      · have q5 : 64 < fc 0 * sv (h - 1 - 0) := Int32.not_le.mp q4
        refine br_f q4 (x_153e (by decide) (H 5 _ (nI t, 0, nI h, nI n, nI a, 5, -1, nI (s + 1), nI c, 0, 0, 0, 0, tk, tv, dg, sk, sv, vk, vv, hw, fr, og, lf, st, la, fm, fc, gr, wi, mn, qx, qy, ss, cl, cp, nx, ny) (zs_er hR' (by decide)) (fun PY hp => ?_)))
        refine ⟨hi, nm_r ev ⟨hi, nm_r ek (br_f (by decide) (br_f (by decide) (br_f (by decide) (br_t rfl ?_))))⟩⟩
        unfold wY_execute_245 wpY_operate
        refine y_check (by decide) hh hp48 (zst_k hS) rfl hmn (fun z => absurd hE z) (fun _ z => absurd z (by decide)) (fun _ _ _ => Yck _ (br_f q (br_f q3 (br_t q5 (br_f (by decide) hp)))))
    · have q3 : 4 < sv (h - 1 - 0) := Int32.not_le.mp q2
      refine br_f q2 (x_153e (by decide) (H 10 _ (nI t, 0, nI h, nI n, nI a, 10, -1, nI (s + 1), nI c, 0, 0, 0, 0, tk, tv, dg, sk, sv, vk, vv, hw, fr, og, lf, st, la, fm, fc, gr, wi, mn, qx, qy, ss, cl, cp, nx, ny) (zs_er hR' (by decide)) (fun PY hp => ?_)))
      refine ⟨hi, nm_r ev ⟨hi, nm_r ek (br_f (by decide) (br_f (by decide) (br_f (by decide) (br_t rfl ?_))))⟩⟩
      unfold wY_execute_245 wpY_operate
      refine y_check (by decide) hh hp48 (zst_k hS) rfl hmn (fun z => absurd hE z) (fun _ z => absurd z (by decide)) (fun _ _ _ => Yck _ (br_f q (br_t q3 (br_f (by decide) hp))))
theorem zgr_move {a b ox oy F x y : Int32} {f : Nat → Int32} (hg : ZGR a b ox oy f F) (hx : Zsm x) (hy : Zsm y) : ZGR a b x y (upd (upd f 2 x) 5 y) F := by
  obtain ⟨g0, g1, g2, g3, g4, g5, g6, g7, hn⟩ := hg
  exact ⟨g0, g1, rfl, g3, g4, rfl, hx, hy, hn⟩
theorem zor_0 (x : Int32) : 0 ||| x = x := by
  apply b_ext
  intro i hi
  rw [b_or, b_0, Bool.false_or]
theorem st_translate {t h n a c s pc : Nat} {PX : Int32 → SX → Prop} (hR : ZR t h n a c mA mB oX oY gY wD pC tk tv cb sk sv vk vv bp br bh bn bs bl px py pm cr sn sx sy sm sp hw fr og lf st la fm fc gr wi mn qx qy ss cl cp) (ha : a < t) (hk : tk a = 1) (hv : tv a = nI 23) (hpc : pC = nI pc) (hp48 : pc ≤ 48) (hE : ZE1 23 h sk pc = 0)
    (H : ∀ (e : Int32) (u' : SX) (v' : SY), ZStep a (s + 1) e u' v' → (∀ PY : SY → Prop, PY v' → wpY_execute PY (nI t, 0, nI h, nI n, nI a, 0, -1, nI (s + 1), nI c, nw, gn, bg, wd, tk, tv, dg, sk, sv, vk, vv, hw, fr, og, lf, st, la, fm, fc, gr, wi, mn, qx, qy, ss, cl, cp, nx, ny)) → PX e u') : wpX_execute PX (nI t, 0, nI a, nI s, -1, nI h, nI n, mA, mB, oX, oY, gY, wD, pC, nI c, tk, tv, cb, sk, sv, vk, vv, bp, br, bh, bn, bs, bl, px, py, pm, cr, sn, sx, sy, sm, sp, dg) (nI a) := by
  have hR' := hR
  obtain ⟨hT, hS, hV, hF, hPO, hG, hSV⟩ := hR
  have ht := hT.1
  have hh := hS.1
  have hmn := zg_mn hG hpc
  have hi : vp_in (nI a) 100 := vp_in_nI (by omega) (by omega)
  have e : (nI a).toNatClampNeg = a := zc_i (by omega)
  have ek : tk (nI a).toNatClampNeg = 1 := by rw [e]; exact hk
  have ev : tv (nI a).toNatClampNeg = nI 23 := by rw [e]; exact hv
  have hpn := po_next hPO ha (by rw [hk]; decide) (by rw [hk]; decide)
  obtain ⟨z1, z2, z3, z4⟩ := ze_0 hE
  have z1 : 2 ≤ h := z1
  have Yck : ∀ Q : Int32 → SY → Prop, (zof (ZDX mA mB oX (sv (h - 1 - 1)).toInt64 (sv (h - 1 - 0)).toInt64) (ZDX mA mB oY (sv (h - 1 - 0)).toInt64 (-(sv (h - 1 - 1)).toInt64)) = 0 → Q 0 (nI t, 0, nI h, nI n, nI a, 0, -1, nI (s + 1), nI c, nI (0 + 1), 0, 0, 0 ||| zof (ZDX mA mB oX (sv (h - 1 - 1)).toInt64 (sv (h - 1 - 0)).toInt64) (ZDX mA mB oY (sv (h - 1 - 0)).toInt64 (-(sv (h - 1 - 1)).toInt64)), tk, tv, dg, sk, sv, vk, vv, hw, fr, og, lf, st, la, fm, fc, gr, wi, mn, qx, qy, ss, cl, cp, upd nx 0 (ZDX mA mB oX (sv (h - 1 - 1)).toInt64 (sv (h - 1 - 0)).toInt64).toInt32, upd ny 0 (ZDX mA mB oY (sv (h - 1 - 0)).toInt64 (-(sv (h - 1 - 1)).toInt64)).toInt32)) → (zof (ZDX mA mB oX (sv (h - 1 - 1)).toInt64 (sv (h - 1 - 0)).toInt64) (ZDX mA mB oY (sv (h - 1 - 0)).toInt64 (-(sv (h - 1 - 1)).toInt64)) ≠ 0 → Q 5 (nI t, 0, nI h, nI n, nI a, 0, -1, nI (s + 1), nI c, nI (0 + 1), 0, 0, 0 ||| zof (ZDX mA mB oX (sv (h - 1 - 1)).toInt64 (sv (h - 1 - 0)).toInt64) (ZDX mA mB oY (sv (h - 1 - 0)).toInt64 (-(sv (h - 1 - 1)).toInt64)), tk, tv, dg, sk, sv, vk, vv, hw, fr, og, lf, st, la, fm, fc, gr, wi, mn, qx, qy, ss, cl, cp, upd nx 0 (ZDX mA mB oX (sv (h - 1 - 1)).toInt64 (sv (h - 1 - 0)).toInt64).toInt32, upd ny 0 (ZDX mA mB oY (sv (h - 1 - 0)).toInt64 (-(sv (h - 1 - 1)).toInt64)).toInt32)) → wY_check_87 Q (nI 23) (nI (ztk 23)) (nI t) 0 (nI h) (nI n) (nI a) 0 (-1) (nI (s + 1)) (nI c) nw gn bg wd tk tv dg sk sv vk vv hw fr og lf st la fm fc gr wi mn qx qy ss cl cp nx ny := by
    intro Q k0 k5
    refine br_t rfl (y_top (j := 1) rfl rfl hh (by omega) (y_top (j := 0) rfl rfl hh (by omega) (y_planUser (q := 0) hG.1 rfl (by omega) (Or.inl rfl) (br_f (by decide) (br_t (by decide) (br_f (by decide) (br_t rfl (br_f (by decide) (br_f (by decide) (br_f (by decide) (y_top (j := 0) rfl rfl hh (by omega) (br_f (by decide) (br_f (by decide) (br_f (by decide) (br_f (by decide) (br_f (by decide) (br_f (by decide) (br_c (fun q => br_f (by decide) (y_ck335n (by decide) (by decide) (by decide) (by decide) (by decide) (by decide) (k0 ?_))) (fun q => k5 ?_)))))))))))))))))))
    · rw [zor_0] at q; exact q
    · rw [zor_0] at q; exact q
  refine nm_r (nI_1 s) (nm_r (nI_1 a) ⟨hi, br_t ek ⟨hi, nm_r ev (x_oe0 (by decide) hh hp48 rfl hpc hE (br_t rfl (br_t (by decide) (br_f (by decide) (br_f (by decide) (br_f (by decide) (br_t (by decide) (br_t (by decide) ?_))))))))⟩⟩)
  unfold wX_execute_118 wpX_changeState
  refine x_operand (j := 0) rfl rfl hh (by omega) (br_f (by decide) (br_f (by decide) (br_f (by decide) (br_f (by decide) (br_t rfl ?_)))))
  unfold wpX_moveOrigin
  refine x_opDX (j := 0) rfl rfl hh (by omega) (x_opDY (j := 0) rfl rfl hh (by omega) (x_off ?_))
  by_cases q : zof (ZDX mA mB oX (sv (h - 1 - 1)).toInt64 (sv (h - 1 - 0)).toInt64) (ZDX mA mB oY (sv (h - 1 - 0)).toInt64 (-(sv (h - 1 - 1)).toInt64)) = 0
  · have hb := zof_0 q
    refine br_t q (x_153 (n := 2) (by decide) rfl z1 rfl (H 0 _ (nI t, 0, nI (h - 2), nI n, nI a + 1, 0, -1, nI (s + 1), nI c, nI (0 + 1), 0, 0, 0 ||| zof (ZDX mA mB oX (sv (h - 1 - 1)).toInt64 (sv (h - 1 - 0)).toInt64) (ZDX mA mB oY (sv (h - 1 - 0)).toInt64 (-(sv (h - 1 - 1)).toInt64)), tk, tv, dg, sk, sv, vk, vv, hw, fr, og, lf, st, la, upd (upd fm 2 (ZDX mA mB oX (sv (h - 1 - 1)).toInt64 (sv (h - 1 - 0)).toInt64).toInt32) 5 (ZDX mA mB oY (sv (h - 1 - 0)).toInt64 (-(sv (h - 1 - 1)).toInt64)).toInt32, fc, gr, wi, mn, qx, qy, ss, cl, cp, upd nx 0 (ZDX mA mB oX (sv (h - 1 - 1)).toInt64 (sv (h - 1 - 0)).toInt64).toInt32, upd ny 0 (ZDX mA mB oY (sv (h - 1 - 0)).toInt64 (-(sv (h - 1 - 1)).toInt64)).toInt32) (zs_ok ⟨hT, zst_le hS (by omega), hV, hF, hpn, zgs_map hG (zgr_move hG.1 hb.1 hb.2), zsv_up hSV (fun i hi => ?_) zr_i zr_i zr_i zr_i zr_i zr_i zr_i zr_i zr_i⟩ rfl (nI_1 a) rfl rfl rfl rfl rfl rfl) (fun PY hp => ?_)))
    · rw [pk_un (by omega), pk_un (by omega)]
    · refine ⟨hi, nm_r ev ⟨hi, nm_r ek (br_f (by decide) (br_f (by decide) (br_f (by decide) (br_t rfl ?_))))⟩⟩
      unfold wY_execute_245 wpY_operate
      refine y_check (by decide) hh hp48 (zst_k hS) rfl hmn (fun z => absurd hE z) (fun _ z => absurd z (by decide)) (fun _ _ _ => Yck _ (fun _ => br_t rfl ?_) (fun z => absurd q z))
      refine br_t (by decide) (br_t (by decide) (br_f (by decide) (y_st1 (n := 2) (by decide) rfl (by omega) z1 hh rfl ?_)))
      exact br_f (by decide) (br_f (by decide) (br_t rfl (y_top (j := 1) rfl rfl hh (by omega) (y_deviceX hG.1 (y_top (j := 1) rfl rfl hh (by omega) (y_deviceY hG.1 (nm_e (nm_e (br_f (by decide) (br_f (by decide) (br_f (by decide) (br_f (by decide) (y_s259 (n := 2) (by decide) rfl z1 rfl hp)))))))))))))
  · refine br_f q (x_153e (by decide) (H 5 _ (nI t, 0, nI h, nI n, nI a, 5, -1, nI (s + 1), nI c, nI (0 + 1), 0, 0, 0 ||| zof (ZDX mA mB oX (sv (h - 1 - 1)).toInt64 (sv (h - 1 - 0)).toInt64) (ZDX mA mB oY (sv (h - 1 - 0)).toInt64 (-(sv (h - 1 - 1)).toInt64)), tk, tv, dg, sk, sv, vk, vv, hw, fr, og, lf, st, la, fm, fc, gr, wi, mn, qx, qy, ss, cl, cp, upd nx 0 (ZDX mA mB oX (sv (h - 1 - 1)).toInt64 (sv (h - 1 - 0)).toInt64).toInt32, upd ny 0 (ZDX mA mB oY (sv (h - 1 - 0)).toInt64 (-(sv (h - 1 - 1)).toInt64)).toInt32) (zs_er hR' (by decide)) (fun PY hp => ?_)))
    refine ⟨hi, nm_r ev ⟨hi, nm_r ek (br_f (by decide) (br_f (by decide) (br_f (by decide) (br_t rfl ?_))))⟩⟩
    unfold wY_execute_245 wpY_operate
    refine y_check (by decide) hh hp48 (zst_k hS) rfl hmn (fun z => absurd hE z) (fun _ z => absurd z (by decide)) (fun _ _ _ => Yck _ (fun z => absurd z q) (fun _ => br_f (by decide) hp))
end
