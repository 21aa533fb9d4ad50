section
variable {tc ob ps su ep sd bc mA mB oX oY gY wD pC sC yt yo yh yi ya ye yp ys yc nw gn bg wd : Int32} {tk tv cb sk sv vk vv bp br bh bn bs bl px py pm cr sn sx sy sm sp dg hw fr og lf st la fm fc gr wi mn qx qy ss cl cp nx ny : Nat → Int32}
theorem zst_put {t h : Nat} {x y : Int32} (hS : ZST t tk h sk sv) (hh : h < 24) (hv : ZV t tk x y) : ZST t tk (h + 1) (upd sk h x) (upd sv h y) := by
  refine ⟨by omega, fun k hk => ?_⟩
  by_cases e : k = h
  · subst e; rw [pk_us, pk_us]; exact hv
  · rw [pk_un e, pk_un e]; exact hS.2 k (by omega)
theorem zst_le {t h h' : Nat} (hS : ZST t tk h sk sv) (hh : h' ≤ h) : ZST t tk h' sk sv := ⟨by have := hS.1; omega, fun k hk => hS.2 k (by omega)⟩
theorem zvr_put {t w : Nat} {x y : Int32} (hS : ZVR t tk vk vv) (hv : ZV t tk x y) : ZVR t tk (upd vk w x) (upd vv w y) := by
  intro k hk
  by_cases e : k = w
  · subst e; rw [pk_us, pk_us]; exact hv
  · rw [pk_un e, pk_un e]; exact hS k hk
theorem zv_0 {t : Nat} {y : Int32} : ZV t tk 0 y := Or.inl rfl
theorem zfr_le {t n n' : Nat} (hF : ZFR t tk cb n bp br bh bn bs bl hw fr og lf st la) (h : n' ≤ n) : ZFR t tk cb n' bp br bh bn bs bl hw fr og lf st la := ⟨by have := hF.1; omega, fun k hk => hF.2 k (by omega)⟩
theorem zst_k {t h : Nat} (hS : ZST t tk h sk sv) : ∀ k, k < h → sk k = 0 ∨ sk k = 1 := fun k hk => by
  rcases hS.2 k hk with e | e
  · exact Or.inl e
  · exact Or.inr e.1
/-- where a '{' ends, as the reference counts -/
theorem y_end_l {post : Int32 → Prop} {t p c : Nat} (ht : t ≤ 100) (h2 : tk p = 2) (hc : Zcl t tk cb p c) (k : post (nI c)) :
    ∀ d q, p ≤ q → q + d = c → wY_end_4 post yt yo yh yi ya ye yp ys yc nw gn bg wd tk tv dg sk sv vk vv hw fr og lf st la fm fc gr wi mn qx qy ss cl cp nx ny (d + 1) (nI (zl tk q - zl tk p).toNat) (nI q) := by
  obtain ⟨c1, c2, c3, c4, c5, c6⟩ := hc
  intro d
  induction d with
  | zero =>
    intro q hq hd
    have e : q = c := by omega
    subst e
    have e1 : (nI q).toNatClampNeg = q := zc_i (by omega)
    have hi : vp_in (nI q) 100 := vp_in_nI (by omega) (by omega)
    have l3 := zl_3 c4
    have e2 : (zl tk q - zl tk p).toNat = 0 + 1 := by omega
    rw [e2]
    refine ⟨hi, br_f (by rw [e1, c4]; decide) ⟨hi, br_t (by rw [e1]; exact c4) (nm_r (pk_m1 0) (nm_r (nI_1 q) (br_f (by decide) ?_)))⟩⟩
    rw [nI_pred]
    exact k
  | succ d ih =>
    intro q hq hd
    have e1 : (nI q).toNatClampNeg = q := zc_i (by omega)
    have hi : vp_in (nI q) 100 := vp_in_nI (by omega) (by omega)
    have hpos : zl tk p < zl tk (q + 1) := c6 (q + 1) (by omega) (by omega)
    have hlow : zl tk p ≤ zl tk q := by
      by_cases e : q = p
      · rw [e]; exact Int.le_refl _
      · have := c6 q (by omega) (by omega); omega
    have hb : ∀ m : Nat, zl tk m ≤ (m : Int) := by
      intro m
      induction m with
      | zero => exact Int.le_refl _
      | succ m ih =>
        have : zl tk (m + 1) ≤ zl tk m + 1 := by
          show zl tk m + _ ≤ _
          split
          · omega
          · split <;> omega
        omega
    have hb1 := hb (q + 1)
    have hbp : ∀ m : Nat, -(m : Int) ≤ zl tk m := by
      intro m
      induction m with
      | zero => exact Int.le_refl _
      | succ m ih =>
        have : zl tk m - 1 ≤ zl tk (m + 1) := by
          show _ ≤ zl tk m + _
          split
          · omega
          · split <;> omega
        omega
    have hb2 := hbp p
    have nxt := ih (q + 1) (by omega) (by omega)
    have h30 : wY_end_30 post (wY_end_4 post yt yo yh yi ya ye yp ys yc nw gn bg wd tk tv dg sk sv vk vv hw fr og lf st la fm fc gr wi mn qx qy ss cl cp nx ny (d + 1)) (nI (zl tk (q + 1) - zl tk p).toNat) (nI q) yt yo yh yi ya ye yp ys yc nw gn bg wd tk tv dg sk sv vk vv hw fr og lf st la fm fc gr wi mn qx qy ss cl cp nx ny := by
      refine nm_r (nI_1 q) (br_t ?_ nxt)
      exact nI_lt (a := 0) (by omega) (by omega)
    by_cases k2 : tk q = 2
    · have l2 := zl_2 k2
      have e2 : (zl tk (q + 1) - zl tk p).toNat = (zl tk q - zl tk p).toNat + 1 := by omega
      rw [e2] at h30
      exact ⟨hi, br_t (by rw [e1]; exact k2) (nm_r (nI_1 _) ⟨hi, br_f (by rw [e1, k2]; decide) h30⟩)⟩
    · by_cases k3 : tk q = 3
      · have l3 := zl_3 k3
        have e2 : (zl tk q - zl tk p).toNat = (zl tk (q + 1) - zl tk p).toNat + 1 := by omega
        rw [e2]
        exact ⟨hi, br_f (by rw [e1]; exact k2) ⟨hi, br_t (by rw [e1]; exact k3) (nm_r (pk_m1 _) h30)⟩⟩
      · have l3 := zl_o k2 k3
        rw [l3] at h30
        exact ⟨hi, br_f (by rw [e1]; exact k2) ⟨hi, br_f (by rw [e1]; exact k3) h30⟩⟩
theorem y_end {post : Int32 → Prop} {t p c : Nat} (ht : t ≤ 100) (h2 : tk p = 2) (hc : Zcl t tk cb p c) (k : post (nI c)) : wpY_end post (yt, yo, yh, yi, ya, ye, yp, ys, yc, nw, gn, bg, wd, tk, tv, dg, sk, sv, vk, vv, hw, fr, og, lf, st, la, fm, fc, gr, wi, mn, qx, qy, ss, cl, cp, nx, ny) (nI p) := by
  have : wY_end_4 post yt yo yh yi ya ye yp ys yc nw gn bg wd tk tv dg sk sv vk vv hw fr og lf st la fm fc gr wi mn qx qy ss cl cp nx ny (c - p + 1) (nI (zl tk p - zl tk p).toNat) (nI p) := y_end_l ht h2 hc k (c - p) p (Nat.le_refl _) (by have := hc.2.1; omega)
  rw [show (zl tk p - zl tk p).toNat = 0 by omega] at this
  exact ⟨c - p + 1, this⟩
/-! ===== one step: tokens that are no operators ===== -/
theorem st_num {t h n a c s : Nat} {PX : Int32 → SX → Prop} (hR : ZR t h n a c mA mB oX oY gY wD pC tk tv cb sk sv vk vv bp br bh bn bs bl px py pm cr sn sx sy sm sp hw fr og lf st la fm fc gr wi mn qx qy ss cl cp) (ha : a < t) (hk : tk a = 0)
    (H : ∀ (e : Int32) (u' : SX) (v' : SY), ZStep a (s + 1) e u' v' → (∀ PY : SY → Prop, PY v' → wpY_execute PY (nI t, 0, nI h, nI n, nI a, 0, -1, nI (s + 1), nI c, nw, gn, bg, wd, tk, tv, dg, sk, sv, vk, vv, hw, fr, og, lf, st, la, fm, fc, gr, wi, mn, qx, qy, ss, cl, cp, nx, ny)) → PX e u') : wpX_execute PX (nI t, 0, nI a, nI s, -1, nI h, nI n, mA, mB, oX, oY, gY, wD, pC, nI c, tk, tv, cb, sk, sv, vk, vv, bp, br, bh, bn, bs, bl, px, py, pm, cr, sn, sx, sy, sm, sp, dg) (nI a) := by
  obtain ⟨hT, hS, hV, hF, hPO, hG, hSV⟩ := hR
  have ht := hT.1
  have hi : vp_in (nI a) 100 := vp_in_nI (by omega) (by omega)
  have e : (nI a).toNatClampNeg = a := zc_i (by omega)
  have ek : tk (nI a).toNatClampNeg = 0 := by rw [e]; exact hk
  have e0 : ¬ (0 : Int32) < 0 := by decide
  refine nm_r (nI_1 s) (nm_r (nI_1 a) ⟨hi, br_f (by rw [ek]; decide) ⟨hi, nm_e ⟨hi, nm_r ek (br_f e0 (br_f (by decide) (br_t rfl ?_)))⟩⟩⟩)
  by_cases h24 : h = 24
  · refine x_putF rfl h24 (H 2 _ (nI t, 0, nI h, nI n, nI a, 2, -1, nI (s + 1), nI c, nw, gn, bg, wd, tk, tv, dg, sk, sv, vk, vv, hw, fr, og, lf, st, la, fm, fc, gr, wi, mn, qx, qy, ss, cl, cp, nx, ny) (zs_er ⟨hT, hS, hV, hF, hPO, hG, hSV⟩ (by decide)) (fun PY hp => ?_))
    exact ⟨hi, nm_e ⟨hi, nm_r ek (br_f e0 (br_f (by decide) (br_t rfl (br_t (by rw [h24]; rfl) hp))))⟩⟩
  · have hh : h < 24 := by have := hS.1; omega
    have hne : ¬ nI h = 24 := fun z => h24 ((nI_eq (b := 24) (by omega) (by omega)).mp z)
    refine x_put rfl hh (H 0 _ (nI t, 0, nI (h + 1), nI n, nI (a + 1), 0, -1, nI (s + 1), nI c, nw, gn, bg, wd, tk, tv, dg, upd sk h 0, upd sv h (tv (nI a).toNatClampNeg), vk, vv, hw, fr, og, lf, st, la, fm, fc, gr, wi, mn, qx, qy, ss, cl, cp, nx, ny) (zs_ok ⟨hT, zst_put hS hh zv_0, hV, hF, po_next hPO ha (by rw [hk]; decide) (by rw [hk]; decide), hG, hSV⟩ rfl rfl rfl rfl rfl rfl rfl rfl) (fun PY hp => ?_))
    exact ⟨hi, nm_e ⟨hi, nm_r ek (br_f e0 (br_f (by decide) (br_t rfl (br_f hne ⟨hi, br_t ek (y_put rfl hh ⟨hi, br_f (by rw [ek]; decide) (nm_r (nI_1 a) hp)⟩)⟩))))⟩⟩
theorem st_beg {t h n a c s : Nat} {PX : Int32 → SX → Prop} (hR : ZR t h n a c mA mB oX oY gY wD pC tk tv cb sk sv vk vv bp br bh bn bs bl px py pm cr sn sx sy sm sp hw fr og lf st la fm fc gr wi mn qx qy ss cl cp) (ha : a < t) (hk : tk a = 2)
    (H : ∀ (e : Int32) (u' : SX) (v' : SY), ZStep a (s + 1) e u' v' → (∀ PY : SY → Prop, PY v' → wpY_execute PY (nI t, 0, nI h, nI n, nI a, 0, -1, nI (s + 1), nI c, nw, gn, bg, wd, tk, tv, dg, sk, sv, vk, vv, hw, fr, og, lf, st, la, fm, fc, gr, wi, mn, qx, qy, ss, cl, cp, nx, ny)) → PX e u') : wpX_execute PX (nI t, 0, nI a, nI s, -1, nI h, nI n, mA, mB, oX, oY, gY, wD, pC, nI c, tk, tv, cb, sk, sv, vk, vv, bp, br, bh, bn, bs, bl, px, py, pm, cr, sn, sx, sy, sm, sp, dg) (nI a) := by
  obtain ⟨hT, hS, hV, hF, hPO, hG, hSV⟩ := hR
  have ht := hT.1
  obtain ⟨q, hq⟩ := tk_all hT ha hk
  have hi : vp_in (nI a) 100 := vp_in_nI (by omega) (by omega)
  have e : (nI a).toNatClampNeg = a := zc_i (by omega)
  have ek : tk (nI a).toNatClampNeg = 2 := by rw [e]; exact hk
  refine nm_r (nI_1 s) (nm_r (nI_1 a) ⟨hi, br_f (by rw [ek]; decide) ⟨hi, nm_e ⟨hi, nm_r ek (br_f (by decide) (br_f (by decide) (br_f (by decide) (br_f (by decide) (br_t rfl ⟨hi, nm_r (show cb (nI a).toNatClampNeg + 1 = nI (q + 1) by rw [e, hq.1, nI_1]) ?_⟩)))))⟩⟩⟩)
  by_cases h24 : h = 24
  · refine x_putF rfl h24 (H 2 _ (nI t, 0, nI h, nI n, nI a, 2, -1, nI (s + 1), nI c, nw, gn, bg, wd, tk, tv, dg, sk, sv, vk, vv, hw, fr, og, lf, st, la, fm, fc, gr, wi, mn, qx, qy, ss, cl, cp, nx, ny) (zs_er ⟨hT, hS, hV, hF, hPO, hG, hSV⟩ (by decide)) (fun PY hp => ?_))
    exact ⟨hi, nm_e ⟨hi, nm_r ek (br_f (by decide) (br_f (by decide) (br_f (by decide) (br_f (by decide) (br_t rfl (br_t (by rw [h24]; rfl) hp))))))⟩⟩
  · have hh : h < 24 := by have := hS.1; omega
    have hne : ¬ nI h = 24 := fun z => h24 ((nI_eq (b := 24) (by omega) (by omega)).mp z)
    refine x_put rfl hh (H 0 _ (nI t, 0, nI (h + 1), nI n, nI (q + 1), 0, -1, nI (s + 1), nI c, nw, gn, bg, wd, tk, tv, dg, upd sk h 1, upd sv h (nI a), vk, vv, hw, fr, og, lf, st, la, fm, fc, gr, wi, mn, qx, qy, ss, cl, cp, nx, ny) (zs_ok ⟨hT, zst_put hS hh (Or.inr ⟨rfl, a, ha, rfl, hk⟩), hV, hF, po_skip hPO hk hq, hG, hSV⟩ rfl rfl rfl rfl rfl rfl rfl rfl) (fun PY hp => ?_))
    refine ⟨hi, nm_e ⟨hi, nm_r ek (br_f (by decide) (br_f (by decide) (br_f (by decide) (br_f (by decide) (br_t rfl (br_f hne ⟨hi, br_f (by rw [ek]; decide) ⟨hi, br_t ek (y_put rfl hh ⟨hi, br_t ek ?_⟩)⟩⟩))))))⟩⟩
    exact y_end ht hk hq (nm_r (nI_1 q) hp)
theorem st_load {t h n a c s : Nat} {PX : Int32 → SX → Prop} (hR : ZR t h n a c mA mB oX oY gY wD pC tk tv cb sk sv vk vv bp br bh bn bs bl px py pm cr sn sx sy sm sp hw fr og lf st la fm fc gr wi mn qx qy ss cl cp) (ha : a < t) (hk : tk a = 4)
    (H : ∀ (e : Int32) (u' : SX) (v' : SY), ZStep a (s + 1) e u' v' → (∀ PY : SY → Prop, PY v' → wpY_execute PY (nI t, 0, nI h, nI n, nI a, 0, -1, nI (s + 1), nI c, nw, gn, bg, wd, tk, tv, dg, sk, sv, vk, vv, hw, fr, og, lf, st, la, fm, fc, gr, wi, mn, qx, qy, ss, cl, cp, nx, ny)) → PX e u') : wpX_execute PX (nI t, 0, nI a, nI s, -1, nI h, nI n, mA, mB, oX, oY, gY, wD, pC, nI c, tk, tv, cb, sk, sv, vk, vv, bp, br, bh, bn, bs, bl, px, py, pm, cr, sn, sx, sy, sm, sp, dg) (nI a) := by
  obtain ⟨hT, hS, hV, hF, hPO, hG, hSV⟩ := hR
  have ht := hT.1
  have hi : vp_in (nI a) 100 := vp_in_nI (by omega) (by omega)
  have e : (nI a).toNatClampNeg = a := zc_i (by omega)
  have ek : tk (nI a).toNatClampNeg = 4 := by rw [e]; exact hk
  obtain ⟨w, hw8, hwe⟩ : ∃ w : Nat, w < 8 ∧ tv a = nI w := by
    have := hT.2.1 a ha
    rw [hk] at this
    rcases this with z | ⟨z, _⟩ | z | z | ⟨_, z⟩ | ⟨z, _⟩
    · exact absurd z (by decide)
    · exact absurd z (by decide)
    · exact absurd z (by decide)
    · exact absurd z (by decide)
    · exact z
    · exact absurd z (by decide)
  have ev : tv (nI a).toNatClampNeg = nI w := by rw [e]; exact hwe
  have hwi : vp_in (nI w) 8 := vp_in_nI hw8 (by omega)
  have ew : (nI w).toNatClampNeg = w := zc_i (by omega)
  refine nm_r (nI_1 s) (nm_r (nI_1 a) ⟨hi, br_f (by rw [ek]; decide) ⟨hi, nm_r ev ⟨hi, nm_r ek (br_f (by decide) (br_f (by decide) (br_f (by decide) (br_f (by decide) (br_f (by decide) (br_f (by decide) (br_t rfl ⟨hwi, hwi, ?_⟩)))))))⟩⟩⟩)
  rw [ew]
  by_cases h24 : h = 24
  · refine x_putF rfl h24 (H 2 _ (nI t, 0, nI h, nI n, nI a, 2, -1, nI (s + 1), nI c, nw, gn, bg, wd, tk, tv, dg, sk, sv, vk, vv, hw, fr, og, lf, st, la, fm, fc, gr, wi, mn, qx, qy, ss, cl, cp, nx, ny) (zs_er ⟨hT, hS, hV, hF, hPO, hG, hSV⟩ (by decide)) (fun PY hp => ?_))
    exact ⟨hi, nm_e ⟨hi, nm_r ek (br_f (by decide) (br_f (by decide) (br_f (by decide) (br_f (by decide) (br_f (by decide) (br_f (by decide) (br_t rfl (br_t (by rw [h24]; rfl) hp))))))))⟩⟩
  · have hh : h < 24 := by have := hS.1; omega
    have hne : ¬ nI h = 24 := fun z => h24 ((nI_eq (b := 24) (by omega) (by omega)).mp z)
    refine x_put rfl hh (H 0 _ (nI t, 0, nI (h + 1), nI n, nI (a + 1), 0, -1, nI (s + 1), nI c, nw, gn, bg, wd, tk, tv, dg, upd sk h (vk w), upd sv h (vv w), vk, vv, hw, fr, og, lf, st, la, fm, fc, gr, wi, mn, qx, qy, ss, cl, cp, nx, ny) (zs_ok ⟨hT, zst_put hS hh (hV w hw8), hV, hF, po_next hPO ha (by rw [hk]; decide) (by rw [hk]; decide), hG, hSV⟩ rfl rfl rfl rfl rfl rfl rfl rfl) (fun PY hp => ?_))
    refine ⟨hi, nm_r ev ⟨hi, nm_r ek (br_f (by decide) (br_f (by decide) (br_f (by decide) (br_f (by decide) (br_f (by decide) (br_f (by decide) (br_t rfl (br_f hne ⟨hi, br_f (by rw [ek]; decide) ⟨hi, br_f (by rw [ek]; decide) ⟨hwi, hwi, ?_⟩⟩⟩))))))))⟩⟩
    rw [ew]
    exact y_put rfl hh ⟨hi, br_f (by rw [ek]; decide) (nm_r (nI_1 a) hp)⟩
theorem st_store {t h n a c s : Nat} {PX : Int32 → SX → Prop} (hR : ZR t h n a c mA mB oX oY gY wD pC tk tv cb sk sv vk vv bp br bh bn bs bl px py pm cr sn sx sy sm sp hw fr og lf st la fm fc gr wi mn qx qy ss cl cp) (ha : a < t) (hk : tk a = 5)
    (H : ∀ (e : Int32) (u' : SX) (v' : SY), ZStep a (s + 1) e u' v' → (∀ PY : SY → Prop, PY v' → wpY_execute PY (nI t, 0, nI h, nI n, nI a, 0, -1, nI (s + 1), nI c, nw, gn, bg, wd, tk, tv, dg, sk, sv, vk, vv, hw, fr, og, lf, st, la, fm, fc, gr, wi, mn, qx, qy, ss, cl, cp, nx, ny)) → PX e u') : wpX_execute PX (nI t, 0, nI a, nI s, -1, nI h, nI n, mA, mB, oX, oY, gY, wD, pC, nI c, tk, tv, cb, sk, sv, vk, vv, bp, br, bh, bn, bs, bl, px, py, pm, cr, sn, sx, sy, sm, sp, dg) (nI a) := by
  obtain ⟨hT, hS, hV, hF, hPO, hG, hSV⟩ := hR
  have ht := hT.1
  have hi : vp_in (nI a) 100 := vp_in_nI (by omega) (by omega)
  have e : (nI a).toNatClampNeg = a := zc_i (by omega)
  have ek : tk (nI a).toNatClampNeg = 5 := by rw [e]; exact hk
  obtain ⟨w, hw8, hwe⟩ : ∃ w : Nat, w < 8 ∧ tv a = nI w := by
    have := hT.2.1 a ha
    rw [hk] at this
    rcases this with z | ⟨z, _⟩ | z | z | ⟨z, _⟩ | ⟨_, z⟩
    · exact absurd z (by decide)
    · exact absurd z (by decide)
    · exact absurd z (by decide)
    · exact absurd z (by decide)
    · exact absurd z (by decide)
    · exact z
  have ev : tv (nI a).toNatClampNeg = nI w := by rw [e]; exact hwe
  have hwi : vp_in (nI w) 8 := vp_in_nI hw8 (by omega)
  have ew : (nI w).toNatClampNeg = w := zc_i (by omega)
  refine nm_r (nI_1 s) (nm_r (nI_1 a) ⟨hi, br_f (by rw [ek]; decide) ⟨hi, nm_r ev ⟨hi, nm_r ek (br_f (by decide) (br_t (by decide) ?_))⟩⟩⟩)
  by_cases h0 : h = 0
  · subst h0
    refine br_f (by decide) (H 1 _ (nI t, 0, 0, nI n, nI a, 1, -1, nI (s + 1), nI c, nw, gn, bg, wd, tk, tv, dg, sk, sv, vk, vv, hw, fr, og, lf, st, la, fm, fc, gr, wi, mn, qx, qy, ss, cl, cp, nx, ny) (zs_er ⟨hT, hS, hV, hF, hPO, hG, hSV⟩ (by decide)) (fun PY hp => ?_))
    exact ⟨hi, nm_e ⟨hi, nm_r ek (br_f (by decide) (br_f (by decide) (br_f (by decide) (br_f (by decide) (br_f (by decide) (br_f (by decide) (br_f (by decide) (br_t rfl (br_t rfl hp)))))))))⟩⟩
  · obtain ⟨h', rfl⟩ : ∃ h', h = h' + 1 := ⟨h - 1, by omega⟩
    have h24 := hS.1
    have hii : vp_in (nI h') 24 := vp_in_nI (by omega) (by omega)
    have eh : (nI h').toNatClampNeg = h' := zc_i (by omega)
    refine ql_t 1 (h' + 1) (by omega) (nm_r (nI_pred h') ⟨hii, hwi, nm_r (show _ = upd vk w (sk h') by rw [ew, eh]) ⟨hii, hwi, nm_r (show _ = upd vv w (sv h') by rw [ew, eh]) ?_⟩⟩)
    refine H 0 _ (nI t, 0, nI h', nI n, nI (a + 1), 0, -1, nI (s + 1), nI c, nw, gn, bg, wd, tk, tv, dg, sk, sv, upd vk w (sk h'), upd vv w (sv h'), hw, fr, og, lf, st, la, fm, fc, gr, wi, mn, qx, qy, ss, cl, cp, nx, ny) (zs_ok ⟨hT, zst_le hS (by omega), zvr_put hV (hS.2 h' (by omega)), hF, po_next hPO ha (by rw [hk]; decide) (by rw [hk]; decide), hG, hSV⟩ rfl rfl rfl rfl rfl rfl rfl rfl) (fun PY hp => ?_)
    exact ⟨hi, nm_r ev ⟨hi, nm_r ek (br_f (by decide) (br_f (by decide) (br_f (by decide) (br_f (by decide) (br_f (by decide) (br_f (by decide) (br_f (by decide) (br_t rfl (br_f (nI_ne0 (by omega) (by omega)) (nm_r (nI_pred h') ⟨hii, hwi, nm_r (show _ = upd vk w (sk h') by rw [ew, eh]) ⟨hii, hwi, nm_r (show _ = upd vv w (sv h') by rw [ew, eh]) (nm_r (nI_1 a) hp)⟩⟩))))))))))⟩⟩
end
