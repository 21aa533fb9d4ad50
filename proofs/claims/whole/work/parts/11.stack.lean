section
variable {tc ob ps su ep sd bc mA mB oX oY gY wD pC sC yt yo yh yi ya ye yp ys yc nw gn bg wd : Int32} {tk tv cb sk sv vk vv bp br bh bn bs bl px py pm cr sn sx sy sm sp dg hw fr og lf st la fm fc gr wi mn qx qy ss cl cp nx ny : Nat → Int32}
theorem zk_e {t h : Nat} (hS : ZST t tk h sk sv) {j : Nat} (hj : j < h) : (if sk j = 1 then (1 : Int32) else 0) = sk j := by
  rcases zst_k hS j hj with q | q <;> rw [q] <;> rfl
theorem zi_0 (h : Nat) : nI h - 0 = nI h := by rw [Int32.sub_zero]
theorem st_pop {t h n a c s pc : Nat} {PX : Int32 → SX → Prop} (hR : ZR t h n a c mA mB oX oY gY wD pC tk tv cb sk sv vk vv bp br bh bn bs bl px py pm cr sn sx sy sm sp hw fr og lf st la fm fc gr wi mn qx qy ss cl cp) (ha : a < t) (hk : tk a = 1) (hv : tv a = nI 8) (hpc : pC = nI pc) (hp48 : pc ≤ 48) (hE : ZE1 8 h sk pc = 0)
    (H : ∀ (e : Int32) (u' : SX) (v' : SY), ZStep a (s + 1) e u' v' → (∀ PY : SY → Prop, PY v' → wpY_execute PY (nI t, 0, nI h, nI n, nI a, 0, -1, nI (s + 1), nI c, nw, gn, bg, wd, tk, tv, dg, sk, sv, vk, vv, hw, fr, og, lf, st, la, fm, fc, gr, wi, mn, qx, qy, ss, cl, cp, nx, ny)) → PX e u') : wpX_execute PX (nI t, 0, nI a, nI s, -1, nI h, nI n, mA, mB, oX, oY, gY, wD, pC, nI c, tk, tv, cb, sk, sv, vk, vv, bp, br, bh, bn, bs, bl, px, py, pm, cr, sn, sx, sy, sm, sp, dg) (nI a) := by
  have hR' := hR
  obtain ⟨hT, hS, hV, hF, hPO, hG, hSV⟩ := hR
  have ht := hT.1
  have hh := hS.1
  have hmn := zg_mn hG hpc
  have hi : vp_in (nI a) 100 := vp_in_nI (by omega) (by omega)
  have e : (nI a).toNatClampNeg = a := zc_i (by omega)
  have ek : tk (nI a).toNatClampNeg = 1 := by rw [e]; exact hk
  have ev : tv (nI a).toNatClampNeg = nI 8 := by rw [e]; exact hv
  have hpn := po_next hPO ha (by rw [hk]; decide) (by rw [hk]; decide)
  obtain ⟨z1, z2, z3, z4⟩ := ze_0 hE
  have z1 : 1 ≤ h := z1
  refine nm_r (nI_1 s) (nm_r (nI_1 a) ⟨hi, br_t ek ⟨hi, nm_r ev (x_oe0 (by decide) hh hp48 rfl hpc hE (br_t rfl (br_t (by decide) (br_t (by decide) ?_))))⟩⟩)
  refine br_t rfl (nm_r (pk_sub (b := 1) z1) (H 0 _ (nI t, 0, nI (h - 1), nI n, nI a + 1, 0, -1, nI (s + 1), nI c, 0, 0, 0, 0, tk, tv, dg, sk, sv, vk, vv, hw, fr, og, lf, st, la, fm, fc, gr, wi, mn, qx, qy, ss, cl, cp, nx, ny) (zs_ok ⟨hT, zst_le hS (by omega), hV, hF, hpn, hG, hSV⟩ rfl (nI_1 a) rfl rfl rfl rfl rfl rfl) (fun PY hp => ?_)))
  refine ⟨hi, nm_r ev ⟨hi, nm_r ek (br_f (by decide) (br_f (by decide) (br_f (by decide) (br_t rfl ?_))))⟩⟩
  unfold wY_execute_245 wpY_operate
  refine y_check (by decide) hh hp48 (zst_k hS) rfl hmn (fun z => absurd hE z) (fun _ z => absurd z (by decide)) (fun _ _ _ => y_ck87 rfl hh z1 hmn hp48 (by decide) (by decide) (by decide) (by decide) (by decide) (by decide) (by decide) (by decide) (by decide) (by decide) (by decide) (y_ck335n (by decide) (by decide) (by decide) (by decide) (by decide) (by decide) (br_t rfl ?_)))
  exact br_f (by decide) (y_cmp1 (by decide) rfl z1 hh rfl (nm_r (pk_sub (b := 1) z1) (br_f (by decide) (y_c97 (by decide) (by decide) (by decide) (by decide) (by decide) (by decide) (by decide) (by decide) (by decide) (by decide) (by decide) (by decide) hp))))
theorem st_dup {t h n a c s pc : Nat} {PX : Int32 → SX → Prop} (hR : ZR t h n a c mA mB oX oY gY wD pC tk tv cb sk sv vk vv bp br bh bn bs bl px py pm cr sn sx sy sm sp hw fr og lf st la fm fc gr wi mn qx qy ss cl cp) (ha : a < t) (hk : tk a = 1) (hv : tv a = nI 9) (hpc : pC = nI pc) (hp48 : pc ≤ 48) (hE : ZE1 9 h sk pc = 0)
    (H : ∀ (e : Int32) (u' : SX) (v' : SY), ZStep a (s + 1) e u' v' → (∀ PY : SY → Prop, PY v' → wpY_execute PY (nI t, 0, nI h, nI n, nI a, 0, -1, nI (s + 1), nI c, nw, gn, bg, wd, tk, tv, dg, sk, sv, vk, vv, hw, fr, og, lf, st, la, fm, fc, gr, wi, mn, qx, qy, ss, cl, cp, nx, ny)) → PX e u') : wpX_execute PX (nI t, 0, nI a, nI s, -1, nI h, nI n, mA, mB, oX, oY, gY, wD, pC, nI c, tk, tv, cb, sk, sv, vk, vv, bp, br, bh, bn, bs, bl, px, py, pm, cr, sn, sx, sy, sm, sp, dg) (nI a) := by
  have hR' := hR
  obtain ⟨hT, hS, hV, hF, hPO, hG, hSV⟩ := hR
  have ht := hT.1
  have hh := hS.1
  have hmn := zg_mn hG hpc
  have hi : vp_in (nI a) 100 := vp_in_nI (by omega) (by omega)
  have e : (nI a).toNatClampNeg = a := zc_i (by omega)
  have ek : tk (nI a).toNatClampNeg = 1 := by rw [e]; exact hk
  have ev : tv (nI a).toNatClampNeg = nI 9 := by rw [e]; exact hv
  have hpn := po_next hPO ha (by rw [hk]; decide) (by rw [hk]; decide)
  obtain ⟨z1, z2, z3, z4⟩ := ze_0 hE
  have z1 : 1 ≤ h := z1
  have z4 : h - 1 + 2 ≤ 24 := z4
  have ky := zk_e hS (j := h - 1 - 0) (by omega)
  have e1 : upd (upd sk (h - 1) (sk (h - 1 - 0))) (h - 1 + 1) (sk (h - 1 - 0)) = upd sk h (sk (h - 1 - 0)) := by
    rw [zu_self (a := sk) (k := h - 1) (x := sk (h - 1 - 0)) rfl, show h - 1 + 1 = h by omega]
  have e2 : upd (upd sv (h - 1) (sv (h - 1 - 0))) (h - 1 + 1) (sv (h - 1 - 0)) = upd sv h (sv (h - 1 - 0)) := by
    rw [zu_self (a := sv) (k := h - 1) (x := sv (h - 1 - 0)) rfl, show h - 1 + 1 = h by omega]
  have e3 : h - 1 + 1 + 1 = h + 1 := by omega
  refine nm_r (nI_1 s) (nm_r (nI_1 a) ⟨hi, br_t ek ⟨hi, nm_r ev (x_oe0 (by decide) hh hp48 rfl hpc hE (br_t rfl (br_t (by decide) (br_t (by decide) ?_))))⟩⟩)
  refine br_f (by decide) (br_t rfl ?_)
  unfold wpX_copyDown
  refine x_operandKind (j := 0) rfl rfl hh (by omega) (x_operand (j := 0) rfl rfl hh (by omega) (nm_r (zi_0 h) (x_put rfl (by omega) (H 0 _ (nI t, 0, nI (h - 1 + 1 + 1), nI n, nI a + 1, 0, -1, nI (s + 1), nI c, 0, 0, 0, 0, tk, tv, dg, upd (upd sk (h - 1) (sk (h - 1 - 0))) (h - 1 + 1) (sk (h - 1 - 0)), upd (upd sv (h - 1) (sv (h - 1 - 0))) (h - 1 + 1) (sv (h - 1 - 0)), vk, vv, hw, fr, og, lf, st, la, fm, fc, gr, wi, mn, qx, qy, ss, cl, cp, nx, ny) ?_ (fun PY hp => ?_)))))
  · rw [e1, e2, e3]
    exact zs_ok ⟨hT, zst_put hS (by omega) (hS.2 _ (by omega)), hV, hF, hpn, hG, hSV⟩ rfl (nI_1 a) rfl rfl rfl rfl rfl rfl
  · refine ⟨hi, nm_r ev ⟨hi, nm_r ek (br_f (by decide) (br_f (by decide) (br_f (by decide) (br_t rfl ?_))))⟩⟩
    unfold wY_execute_245 wpY_operate
    refine y_check (by decide) hh hp48 (zst_k hS) rfl hmn (fun z => absurd hE z) (fun _ z => absurd z (by decide)) (fun _ _ _ => y_ck87 rfl hh z1 hmn hp48 (by decide) (by decide) (by decide) (by decide) (by decide) (by decide) (by decide) (by decide) (by decide) (by decide) (by decide) (y_ck335n (by decide) (by decide) (by decide) (by decide) (by decide) (by decide) (br_t rfl ?_)))
    refine br_f (by decide) (y_cmp1 (by decide) rfl z1 hh rfl (nm_r (pk_sub (b := 1) z1) (br_f (by decide) (br_f (by decide) (br_f (by decide) (br_f (by decide) (br_f (by decide) (br_f (by decide) (br_f (by decide) (br_f (by decide) (br_t rfl ?_)))))))))))
    rw [ky]
    unfold wY_compute_228
    exact y_put rfl (by omega) (br_t rfl (y_put rfl (by omega) (br_f (by decide) (y_c262 (by decide) (by decide) (by decide) hp))))
theorem st_exch {t h n a c s pc : Nat} {PX : Int32 → SX → Prop} (hR : ZR t h n a c mA mB oX oY gY wD pC tk tv cb sk sv vk vv bp br bh bn bs bl px py pm cr sn sx sy sm sp hw fr og lf st la fm fc gr wi mn qx qy ss cl cp) (ha : a < t) (hk : tk a = 1) (hv : tv a = nI 10) (hpc : pC = nI pc) (hp48 : pc ≤ 48) (hE : ZE1 10 h sk pc = 0)
    (H : ∀ (e : Int32) (u' : SX) (v' : SY), ZStep a (s + 1) e u' v' → (∀ PY : SY → Prop, PY v' → wpY_execute PY (nI t, 0, nI h, nI n, nI a, 0, -1, nI (s + 1), nI c, nw, gn, bg, wd, tk, tv, dg, sk, sv, vk, vv, hw, fr, og, lf, st, la, fm, fc, gr, wi, mn, qx, qy, ss, cl, cp, nx, ny)) → PX e u') : wpX_execute PX (nI t, 0, nI a, nI s, -1, nI h, nI n, mA, mB, oX, oY, gY, wD, pC, nI c, tk, tv, cb, sk, sv, vk, vv, bp, br, bh, bn, bs, bl, px, py, pm, cr, sn, sx, sy, sm, sp, dg) (nI a) := by
  have hR' := hR
  obtain ⟨hT, hS, hV, hF, hPO, hG, hSV⟩ := hR
  have ht := hT.1
  have hh := hS.1
  have hmn := zg_mn hG hpc
  have hi : vp_in (nI a) 100 := vp_in_nI (by omega) (by omega)
  have e : (nI a).toNatClampNeg = a := zc_i (by omega)
  have ek : tk (nI a).toNatClampNeg = 1 := by rw [e]; exact hk
  have ev : tv (nI a).toNatClampNeg = nI 10 := by rw [e]; exact hv
  have hpn := po_next hPO ha (by rw [hk]; decide) (by rw [hk]; decide)
  obtain ⟨z1, z2, z3, z4⟩ := ze_0 hE
  have z1 : 2 ≤ h := z1
  have z4 : h - 2 + 2 ≤ 24 := z4
  have ky := zk_e hS (j := h - 1 - 0) (by omega)
  have kx := zk_e hS (j := h - 1 - 1) (by omega)
  refine nm_r (nI_1 s) (nm_r (nI_1 a) ⟨hi, br_t ek ⟨hi, nm_r ev (x_oe0 (by decide) hh hp48 rfl hpc hE (br_t rfl (br_t (by decide) (br_t (by decide) ?_))))⟩⟩)
  refine br_f (by decide) (br_f (by decide) (br_t rfl ?_))
  unfold wpX_exchange
  refine x_operandKind (j := 1) rfl rfl hh (by omega) (x_operand (j := 1) rfl rfl hh (by omega) (x_operandKind (j := 0) rfl rfl hh (by omega) (x_operand (j := 0) rfl rfl hh (by omega) (nm_r (pk_sub (b := 2) z1) (x_put rfl (by omega) (x_put rfl (by omega) (H 0 _ (nI t, 0, nI (h - 2 + 1 + 1), nI n, nI a + 1, 0, -1, nI (s + 1), nI c, 0, 0, 0, 0, tk, tv, dg, upd (upd sk (h - 2) (sk (h - 1 - 0))) (h - 2 + 1) (sk (h - 1 - 1)), upd (upd sv (h - 2) (sv (h - 1 - 0))) (h - 2 + 1) (sv (h - 1 - 1)), vk, vv, hw, fr, og, lf, st, la, fm, fc, gr, wi, mn, qx, qy, ss, cl, cp, nx, ny) ?_ (fun PY hp => ?_))))))))
  · exact zs_ok ⟨hT, zst_put (zst_put (zst_le hS (by omega)) (by omega) (hS.2 _ (by omega))) (by omega) (hS.2 _ (by omega)), hV, hF, hpn, hG, hSV⟩ rfl (nI_1 a) rfl rfl rfl rfl rfl rfl
  · refine ⟨hi, nm_r ev ⟨hi, nm_r ek (br_f (by decide) (br_f (by decide) (br_f (by decide) (br_t rfl ?_))))⟩⟩
    unfold wY_execute_245 wpY_operate
    refine y_check (by decide) hh hp48 (zst_k hS) rfl hmn (fun z => absurd hE z) (fun _ z => absurd z (by decide)) (fun _ _ _ => y_ck87 rfl hh z1 hmn hp48 (by decide) (by decide) (by decide) (by decide) (by decide) (by decide) (by decide) (by decide) (by decide) (by decide) (by decide) (y_ck335n (by decide) (by decide) (by decide) (by decide) (by decide) (by decide) (br_t rfl ?_)))
    refine br_f (by decide) (y_cmp2 (by decide) rfl z1 hh rfl (nm_r (pk_sub (b := 2) z1) (br_f (by decide) (br_f (by decide) (br_f (by decide) (br_f (by decide) (br_f (by decide) (br_f (by decide) (br_f (by decide) (br_f (by decide) (br_f (by decide) (br_t rfl ?_))))))))))))
    rw [ky, kx]
    unfold wY_compute_228
    exact y_put rfl (by omega) (br_f (by decide) (br_t rfl (y_put rfl (by omega) (y_c262 (by decide) (by decide) (by decide) hp))))
theorem st_index {t h n a c s pc : Nat} {PX : Int32 → SX → Prop} (hR : ZR t h n a c mA mB oX oY gY wD pC tk tv cb sk sv vk vv bp br bh bn bs bl px py pm cr sn sx sy sm sp hw fr og lf st la fm fc gr wi mn qx qy ss cl cp) (ha : a < t) (hk : tk a = 1) (hv : tv a = nI 11) (hpc : pC = nI pc) (hp48 : pc ≤ 48) (hE : ZE1 11 h sk pc = 0)
    (H : ∀ (e : Int32) (u' : SX) (v' : SY), ZStep a (s + 1) e u' v' → (∀ PY : SY → Prop, PY v' → wpY_execute PY (nI t, 0, nI h, nI n, nI a, 0, -1, nI (s + 1), nI c, nw, gn, bg, wd, tk, tv, dg, sk, sv, vk, vv, hw, fr, og, lf, st, la, fm, fc, gr, wi, mn, qx, qy, ss, cl, cp, nx, ny)) → PX e u') : wpX_execute PX (nI t, 0, nI a, nI s, -1, nI h, nI n, mA, mB, oX, oY, gY, wD, pC, nI c, tk, tv, cb, sk, sv, vk, vv, bp, br, bh, bn, bs, bl, px, py, pm, cr, sn, sx, sy, sm, sp, dg) (nI a) := by
  have hR' := hR
  obtain ⟨hT, hS, hV, hF, hPO, hG, hSV⟩ := hR
  have ht := hT.1
  have hh := hS.1
  have hmn := zg_mn hG hpc
  have hi : vp_in (nI a) 100 := vp_in_nI (by omega) (by omega)
  have e : (nI a).toNatClampNeg = a := zc_i (by omega)
  have ek : tk (nI a).toNatClampNeg = 1 := by rw [e]; exact hk
  have ev : tv (nI a).toNatClampNeg = nI 11 := by rw [e]; exact hv
  have hpn := po_next hPO ha (by rw [hk]; decide) (by rw [hk]; decide)
  obtain ⟨z1, z2, z3, z4⟩ := ze_0 hE
  have z1 : 1 ≤ h := z1
  have z4 : h - 1 + 1 ≤ 24 := z4
  have hm1 : nI h - 1 = nI (h - 1) := pk_sub (b := 1) z1
  have Yck : ∀ PY : SY → Prop, (∀ Q : Int32 → SY → Prop, (sv (h - 1 - 0) < 0 → Q 10 (nI t, 0, nI h, nI n, nI a, 0, -1, nI (s + 1), nI c, 0, 0, 0, 0, tk, tv, dg, sk, sv, vk, vv, hw, fr, og, lf, st, la, fm, fc, gr, wi, mn, qx, qy, ss, cl, cp, nx, ny)) ∧ (¬ sv (h - 1 - 0) < 0 → ((sv (h - 1 - 0) ≤ nI h - 2 → Q 0 (nI t, 0, nI h, nI n, nI a, 0, -1, nI (s + 1), nI c, 0, 0, 0, 0, tk, tv, dg, sk, sv, vk, vv, hw, fr, og, lf, st, la, fm, fc, gr, wi, mn, qx, qy, ss, cl, cp, nx, ny)) ∧ (¬ sv (h - 1 - 0) ≤ nI h - 2 → Q 10 (nI t, 0, nI h, nI n, nI a, 0, -1, nI (s + 1), nI c, 0, 0, 0, 0, tk, tv, dg, sk, sv, vk, vv, hw, fr, og, lf, st, la, fm, fc, gr, wi, mn, qx, qy, ss, cl, cp, nx, ny)))) → wY_check_87 Q (nI 11) (nI (ztk 11)) (nI t) 0 (nI h) (nI n) (nI a) 0 (-1) (nI (s + 1)) (nI c) nw gn bg wd tk tv dg sk sv vk vv hw fr og lf st la fm fc gr wi mn qx qy ss cl cp nx ny) := by
    intro PY Q k
    refine y_plan0 (by decide) (by decide) (by decide) (br_f (by decide) (br_f (by decide) (br_f ?_ (br_f (by decide) (br_f (by decide) (y_top (j := 0) rfl rfl hh (by omega) (br_f (by decide) (br_f (by decide) (br_f (by decide) (br_t rfl (br_c (fun q => k.1 q) (fun q => br_c (fun q2 => ?_) (fun q2 => (k.2 q).2 q2)))))))))))))
    · rw [hmn]
      show ¬ nI 48 < nI pc - nI 0 + nI 0
      rw [pk_sub (by omega), nI_add]
      exact nI_nlt (by omega) (by omega)
    · exact br_f (by decide) (br_f (by decide) (br_t rfl (br_f (by decide) (y_ck335n (by decide) (by decide) (by decide) (by decide) (by decide) (by decide) ((k.2 q).1 q2)))))
  refine nm_r (nI_1 s) (nm_r (nI_1 a) ⟨hi, br_t ek ⟨hi, nm_r ev (x_oe0 (by decide) hh hp48 rfl hpc hE (br_t rfl (br_t (by decide) (br_t (by decide) ?_))))⟩⟩)
  refine br_f (by decide) (br_f (by decide) (br_f (by decide) (br_t rfl ?_)))
  unfold wpX_copyIndexed
  refine x_operand (j := 0) rfl rfl hh (by omega) ?_
  have Yerr : ∀ PY : SY → Prop, (sv (h - 1 - 0) < 0 ∨ (¬ sv (h - 1 - 0) < 0 ∧ ¬ sv (h - 1 - 0) ≤ nI h - 2)) → PY (nI t, 0, nI h, nI n, nI a, 10, -1, nI (s + 1), nI c, 0, 0, 0, 0, tk, tv, dg, sk, sv, vk, vv, hw, fr, og, lf, st, la, fm, fc, gr, wi, mn, qx, qy, ss, cl, cp, nx, ny) → wpY_execute PY (nI t, 0, nI h, nI n, nI a, 0, -1, nI (s + 1), nI c, nw, gn, bg, wd, tk, tv, dg, sk, sv, vk, vv, hw, fr, og, lf, st, la, fm, fc, gr, wi, mn, qx, qy, ss, cl, cp, nx, ny) := by
    intro PY hc hp
    refine ⟨hi, nm_r ev ⟨hi, nm_r ek (br_f (by decide) (br_f (by decide) (br_f (by decide) (br_t rfl ?_))))⟩⟩
    unfold wY_execute_245 wpY_operate
    refine y_check (by decide) hh hp48 (zst_k hS) rfl hmn (fun z => absurd hE z) (fun _ z => absurd z (by decide)) (fun _ _ _ => Yck PY _ ?_)
    rcases hc with q | q
    · exact br_t q (br_f (by decide) hp)
    · exact br_f q.1 (br_f q.2 (br_f (by decide) hp))
  rcases pk_ix (sv (h - 1 - 0)) (n := h - 1) (by omega) with q | q | ⟨m, hm, q⟩
  · exact br_t q (H 10 _ (nI t, 0, nI h, nI n, nI a, 10, -1, nI (s + 1), nI c, 0, 0, 0, 0, tk, tv, dg, sk, sv, vk, vv, hw, fr, og, lf, st, la, fm, fc, gr, wi, mn, qx, qy, ss, cl, cp, nx, ny) (zs_er hR' (by decide)) (fun PY hp => Yerr PY (Or.inl q) hp))
  · have q0 : ¬ sv (h - 1 - 0) < 0 := Int32.not_lt.mpr (Int32.le_trans (nI_pos' (by omega)) q)
    refine br_f q0 (br_f (by rw [hm1]; exact Int32.not_lt.mpr q) (H 10 _ (nI t, 0, nI h, nI n, nI a, 10, -1, nI (s + 1), nI c, 0, 0, 0, 0, tk, tv, dg, sk, sv, vk, vv, hw, fr, og, lf, st, la, fm, fc, gr, wi, mn, qx, qy, ss, cl, cp, nx, ny) (zs_er hR' (by decide)) (fun PY hp => Yerr PY (Or.inr ⟨q0, ?_⟩) hp)))
    by_cases h1 : h = 1
    · subst h1
      intro z
      exact q0 (Int32.lt_of_le_of_lt z (by decide))
    · rw [show nI h - 2 = nI (h - 2) from pk_sub (b := 2) (by omega)]
      exact Int32.not_le.mpr (Int32.lt_of_lt_of_le (nI_lt (by omega) (by omega)) q)
  · have ei : h - 1 - (m + 1) = h - 1 - 1 - m := by omega
    rw [q]
    refine qs_f m 0 (by omega) (br_t (by rw [hm1]; exact nI_lt hm (by omega)) ?_)
    unfold wpX_copyDown
    refine x_operandKind (j := m + 1) rfl (nI_1 m) hh (by omega) (x_operand (j := m + 1) rfl (nI_1 m) hh (by omega) (nm_r hm1 (x_put rfl (by omega) ?_)))
    rw [ei]
    refine H 0 _ (nI t, 0, nI (h - 1 + 1), nI n, nI a + 1, 0, -1, nI (s + 1), nI c, 0, 0, 0, 0, tk, tv, dg, upd sk (h - 1) (sk (h - 1 - 1 - m)), upd sv (h - 1) (sv (h - 1 - 1 - m)), vk, vv, hw, fr, og, lf, st, la, fm, fc, gr, wi, mn, qx, qy, ss, cl, cp, nx, ny) ?_ (fun PY hp => ?_)
    · exact zs_ok ⟨hT, zst_put (zst_le hS (by omega)) (by omega) (hS.2 _ (by omega)), hV, hF, hpn, hG, hSV⟩ rfl (nI_1 a) rfl rfl rfl rfl rfl rfl
    · refine ⟨hi, nm_r ev ⟨hi, nm_r ek (br_f (by decide) (br_f (by decide) (br_f (by decide) (br_t rfl ?_))))⟩⟩
      unfold wY_execute_245 wpY_operate
      refine y_check (by decide) hh hp48 (zst_k hS) rfl hmn (fun z => absurd hE z) (fun _ z => absurd z (by decide)) (fun _ _ _ => Yck PY _ ?_)
      refine br_f (by rw [q]; exact nI_pos (by omega)) (br_t (by rw [q, show nI h - 2 = nI (h - 2) from pk_sub (b := 2) (by omega)]; exact nI_le (by omega) (by omega)) (br_t rfl ?_))
      refine br_f (by decide) (y_cmp1 (by decide) rfl z1 hh rfl ?_)
      rw [q]
      have e5 : (nI (h - 1 - 1 - m)).toNatClampNeg = h - 1 - 1 - m := zc_i (by omega)
      refine nm_r (pk_sub (b := 1) z1) (br_f (by decide) (br_f (by decide) (br_f (by decide) (br_f (by decide) (br_f (by decide) (br_f (by decide) (br_f (by decide) (br_f (by decide) (br_f (by decide) (br_f (by decide) (br_f (by decide) (br_f (by decide) (br_t rfl (nm_r (zs_1 (h := h - 1) hm) ⟨vp_in_nI (by omega) (by omega), vp_in_nI (by omega) (by omega), ?_⟩))))))))))))))
      rw [e5]
      exact y_put rfl (by omega) (br_f (by decide) (br_f (by decide) (nm_e hp)))
theorem st_count {t h n a c s pc : Nat} {PX : Int32 → SX → Prop} (hR : ZR t h n a c mA mB oX oY gY wD pC tk tv cb sk sv vk vv bp br bh bn bs bl px py pm cr sn sx sy sm sp hw fr og lf st la fm fc gr wi mn qx qy ss cl cp) (ha : a < t) (hk : tk a = 1) (hv : tv a = nI 12) (hpc : pC = nI pc) (hp48 : pc ≤ 48) (hE : ZE1 12 h sk pc = 0)
    (H : ∀ (e : Int32) (u' : SX) (v' : SY), ZStep a (s + 1) e u' v' → (∀ PY : SY → Prop, PY v' → wpY_execute PY (nI t, 0, nI h, nI n, nI a, 0, -1, nI (s + 1), nI c, nw, gn, bg, wd, tk, tv, dg, sk, sv, vk, vv, hw, fr, og, lf, st, la, fm, fc, gr, wi, mn, qx, qy, ss, cl, cp, nx, ny)) → PX e u') : wpX_execute PX (nI t, 0, nI a, nI s, -1, nI h, nI n, mA, mB, oX, oY, gY, wD, pC, nI c, tk, tv, cb, sk, sv, vk, vv, bp, br, bh, bn, bs, bl, px, py, pm, cr, sn, sx, sy, sm, sp, dg) (nI a) := by
  have hR' := hR
  obtain ⟨hT, hS, hV, hF, hPO, hG, hSV⟩ := hR
  have ht := hT.1
  have hh := hS.1
  have hmn := zg_mn hG hpc
  have hi : vp_in (nI a) 100 := vp_in_nI (by omega) (by omega)
  have e : (nI a).toNatClampNeg = a := zc_i (by omega)
  have ek : tk (nI a).toNatClampNeg = 1 := by rw [e]; exact hk
  have ev : tv (nI a).toNatClampNeg = nI 12 := by rw [e]; exact hv
  have hpn := po_next hPO ha (by rw [hk]; decide) (by rw [hk]; decide)
  obtain ⟨z1, z2, z3, z4⟩ := ze_0 hE
  have z1 : 0 ≤ h := z1
  have z4 : h - 0 + 1 ≤ 24 := z4
  refine nm_r (nI_1 s) (nm_r (nI_1 a) ⟨hi, br_t ek ⟨hi, nm_r ev (x_oe0 (by decide) hh hp48 rfl hpc hE (br_t rfl (br_t (by decide) (br_t (by decide) ?_))))⟩⟩)
  refine br_f (by decide) (br_f (by decide) (br_f (by decide) (br_f (by decide) (br_t rfl (x_put rfl (by omega) (H 0 _ (nI t, 0, nI (h + 1), nI n, nI a + 1, 0, -1, nI (s + 1), nI c, 0, 0, 0, 0, tk, tv, dg, upd sk h 0, upd sv h (nI h), vk, vv, hw, fr, og, lf, st, la, fm, fc, gr, wi, mn, qx, qy, ss, cl, cp, nx, ny) (zs_ok ⟨hT, zst_put hS (by omega) zv_0, hV, hF, hpn, hG, hSV⟩ rfl (nI_1 a) rfl rfl rfl rfl rfl rfl) (fun PY hp => ?_)))))))
  refine ⟨hi, nm_r ev ⟨hi, nm_r ek (br_f (by decide) (br_f (by decide) (br_f (by decide) (br_t rfl ?_))))⟩⟩
  unfold wY_execute_245 wpY_operate
  refine y_check (by decide) hh hp48 (zst_k hS) rfl hmn (fun z => absurd hE z) (fun _ z => absurd z (by decide)) (fun _ _ _ => y_ck87 rfl hh z1 hmn hp48 (by decide) (by decide) (by decide) (by decide) (by decide) (by decide) (by decide) (by decide) (by decide) (by decide) (by decide) (y_ck335n (by decide) (by decide) (by decide) (by decide) (by decide) (by decide) (br_t rfl ?_)))
  exact br_f (by decide) (y_cmp0 (by decide) rfl (nm_r (zi_0 h) (br_f (by decide) (br_f (by decide) (br_f (by decide) (br_f (by decide) (br_f (by decide) (br_f (by decide) (br_f (by decide) (br_f (by decide) (br_f (by decide) (br_f (by decide) (br_f (by decide) (br_f (by decide) (br_f (by decide) (br_t rfl (y_put rfl (by omega) (br_f (by decide) (nm_e hp)))))))))))))))))))
theorem st_clear {t h n a c s pc : Nat} {PX : Int32 → SX → Prop} (hR : ZR t h n a c mA mB oX oY gY wD pC tk tv cb sk sv vk vv bp br bh bn bs bl px py pm cr sn sx sy sm sp hw fr og lf st la fm fc gr wi mn qx qy ss cl cp) (ha : a < t) (hk : tk a = 1) (hv : tv a = nI 13) (hpc : pC = nI pc) (hp48 : pc ≤ 48) (hE : ZE1 13 h sk pc = 0)
    (H : ∀ (e : Int32) (u' : SX) (v' : SY), ZStep a (s + 1) e u' v' → (∀ PY : SY → Prop, PY v' → wpY_execute PY (nI t, 0, nI h, nI n, nI a, 0, -1, nI (s + 1), nI c, nw, gn, bg, wd, tk, tv, dg, sk, sv, vk, vv, hw, fr, og, lf, st, la, fm, fc, gr, wi, mn, qx, qy, ss, cl, cp, nx, ny)) → PX e u') : wpX_execute PX (nI t, 0, nI a, nI s, -1, nI h, nI n, mA, mB, oX, oY, gY, wD, pC, nI c, tk, tv, cb, sk, sv, vk, vv, bp, br, bh, bn, bs, bl, px, py, pm, cr, sn, sx, sy, sm, sp, dg) (nI a) := by
  have hR' := hR
  obtain ⟨hT, hS, hV, hF, hPO, hG, hSV⟩ := hR
  have ht := hT.1
  have hh := hS.1
  have hmn := zg_mn hG hpc
  have hi : vp_in (nI a) 100 := vp_in_nI (by omega) (by omega)
  have e : (nI a).toNatClampNeg = a := zc_i (by omega)
  have ek : tk (nI a).toNatClampNeg = 1 := by rw [e]; exact hk
  have ev : tv (nI a).toNatClampNeg = nI 13 := by rw [e]; exact hv
  have hpn := po_next hPO ha (by rw [hk]; decide) (by rw [hk]; decide)
  obtain ⟨z1, z2, z3, z4⟩ := ze_0 hE
  have z1 : 0 ≤ h := z1
  refine nm_r (nI_1 s) (nm_r (nI_1 a) ⟨hi, br_t ek ⟨hi, nm_r ev (x_oe0 (by decide) hh hp48 rfl hpc hE (br_t rfl (br_t (by decide) (br_t (by decide) ?_))))⟩⟩)
  refine br_f (by decide) (br_f (by decide) (br_f (by decide) (br_f (by decide) (br_f (by decide) (br_t rfl (nm_r (Int32.sub_self (nI h)) (H 0 _ (nI t, 0, 0, nI n, nI a + 1, 0, -1, nI (s + 1), nI c, 0, 0, 0, 0, tk, tv, dg, sk, sv, vk, vv, hw, fr, og, lf, st, la, fm, fc, gr, wi, mn, qx, qy, ss, cl, cp, nx, ny) (zs_ok (h := 0) ⟨hT, zst_le hS (by omega), hV, hF, hpn, hG, hSV⟩ rfl (nI_1 a) rfl rfl rfl rfl rfl rfl) (fun PY hp => ?_))))))))
  refine ⟨hi, nm_r ev ⟨hi, nm_r ek (br_f (by decide) (br_f (by decide) (br_f (by decide) (br_t rfl ?_))))⟩⟩
  unfold wY_execute_245 wpY_operate
  refine y_check (by decide) hh hp48 (zst_k hS) rfl hmn (fun z => absurd hE z) (fun _ z => absurd z (by decide)) (fun _ _ _ => y_ck87 rfl hh z1 hmn hp48 (by decide) (by decide) (by decide) (by decide) (by decide) (by decide) (by decide) (by decide) (by decide) (by decide) (by decide) (y_ck335n (by decide) (by decide) (by decide) (by decide) (by decide) (by decide) (br_t rfl ?_)))
  exact br_f (by decide) (y_cmp0 (by decide) rfl (nm_r (zi_0 h) (br_f (by decide) (br_f (by decide) (br_f (by decide) (br_f (by decide) (br_f (by decide) (br_f (by decide) (br_f (by decide) (br_f (by decide) (br_f (by decide) (br_f (by decide) (br_f (by decide) (br_f (by decide) (br_f (by decide) (br_f (by decide) (br_t rfl (nm_e hp))))))))))))))))))
end
