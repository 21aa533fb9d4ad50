section
variable {tc ob ps su ep sd bc mA mB oX oY gY wD pC sC yt yo yh yi ya ye yp ys yc nw gn bg wd : Int32} {tk tv cb sk sv vk vv bp br bh bn bs bl px py pm cr sn sx sy sm sp dg hw fr og lf st la fm fc gr wi mn qx qy ss cl cp nx ny : Nat → Int32}
theorem zfr_push {t n p o : Nat} {w x y z x' y' z' : Int32} (hF : ZFR t tk cb n bp br bh bn bs bl hw fr og lf st la) (hn : n < 12) (hp : p < t) (h2 : tk p = 2) (hpo : ZPO t tk cb bp n (o + 1)) (c2 : w = 2 → x' = x ∧ y' = y ∧ z' = z) (c1 : w = 1 → x' = x ∧ y = -1 ∧ z = 1) :
    ZFR t tk cb (n + 1) (upd bp n (nI p)) (upd br n (nI (o + 1))) (upd bh n w) (upd bn n x) (upd bs n y) (upd bl n z) (upd hw n w) (upd fr n (nI (p + 1))) (upd og n (nI o)) (upd lf n x') (upd st n y') (upd la n z') := by
  refine ⟨by omega, fun k hk => ?_⟩
  by_cases e : k = n
  · subst e
    simp only [pk_us]
    exact ⟨⟨p, o, hp, h2, rfl, rfl, rfl, rfl, po_bp hpo (fun j hj => pk_un (by omega))⟩, trivial, c2, c1⟩
  · simp only [pk_un e]
    obtain ⟨⟨p', o', a1, a2, a3, a4, a5, a6, a7⟩, a8⟩ := hF.2 k (by omega)
    exact ⟨⟨p', o', a1, a2, a3, a4, a5, a6, po_bp a7 (fun j hj => pk_un (by omega))⟩, a8⟩
theorem x_begin {post : Int32 → SX → Prop} {p0 p1 p2 p3 p4 p5 : Int32} {n p h' : Nat} (hn : bc = nI n) (h12 : n < 12) (hp : p1 = nI p) (hs : sd - p0 = nI h') (h2 : p2 ≠ 2) (k : post 0 (tc, ob, nI (p + 1), su, ep, nI h', nI (n + 1), mA, mB, oX, oY, gY, wD, pC, sC, tk, tv, cb, sk, sv, vk, vv, upd bp n (nI p), upd br n ps, upd bh n p2, upd bn n p3, upd bs n p4, upd bl n p5, px, py, pm, cr, sn, sx, sy, sm, sp, dg)) : wpX_begin post (tc, ob, ps, su, ep, sd, bc, mA, mB, oX, oY, gY, wD, pC, sC, tk, tv, cb, sk, sv, vk, vv, bp, br, bh, bn, bs, bl, px, py, pm, cr, sn, sx, sy, sm, sp, dg) p0 p1 p2 p3 p4 p5 := by
  subst hn hp
  have hi : vp_in (nI n) 12 := vp_in_nI h12 (by omega)
  have e : (nI n).toNatClampNeg = n := zc_i (by omega)
  exact qs_t n 12 h12 ⟨hi, nm_r (congrArg (fun q => upd bp q (nI p)) e) ⟨hi, nm_r (congrArg (fun q => upd br q ps) e) ⟨hi, nm_r (congrArg (fun q => upd bh q p2) e) ⟨hi, nm_r (congrArg (fun q => upd bn q p3) e) ⟨hi, nm_r (congrArg (fun q => upd bs q p4) e) ⟨hi, nm_r (congrArg (fun q => upd bl q p5) e) (nm_r (nI_1 n) (nm_r (nI_1 p) (nm_r hs (br_f h2 k))))⟩⟩⟩⟩⟩⟩
theorem x_begin2 {post : Int32 → SX → Prop} {p0 p1 p3 p4 p5 : Int32} {n p h' : Nat} (hn : bc = nI n) (h12 : n < 12) (hp : p1 = nI p) (hs : sd - p0 = nI h') (hh : h' < 24) (k : post 0 (tc, ob, nI (p + 1), su, ep, nI (h' + 1), nI (n + 1), mA, mB, oX, oY, gY, wD, pC, sC, tk, tv, cb, upd sk h' 0, upd sv h' p3, vk, vv, upd bp n (nI p), upd br n ps, upd bh n 2, upd bn n p3, upd bs n p4, upd bl n p5, px, py, pm, cr, sn, sx, sy, sm, sp, dg)) : wpX_begin post (tc, ob, ps, su, ep, sd, bc, mA, mB, oX, oY, gY, wD, pC, sC, tk, tv, cb, sk, sv, vk, vv, bp, br, bh, bn, bs, bl, px, py, pm, cr, sn, sx, sy, sm, sp, dg) p0 p1 2 p3 p4 p5 := by
  subst hn hp
  have hi : vp_in (nI n) 12 := vp_in_nI h12 (by omega)
  have e : (nI n).toNatClampNeg = n := zc_i (by omega)
  exact qs_t n 12 h12 ⟨hi, nm_r (congrArg (fun q => upd bp q (nI p)) e) ⟨hi, nm_r (congrArg (fun q => upd br q ps) e) ⟨hi, nm_r (congrArg (fun q => upd bh q 2) e) ⟨hi, nm_r (congrArg (fun q => upd bn q p3) e) ⟨hi, nm_r (congrArg (fun q => upd bs q p4) e) ⟨hi, nm_r (congrArg (fun q => upd bl q p5) e) (nm_r (nI_1 n) (nm_r (nI_1 p) (nm_r hs (br_t rfl (x_put rfl hh k)))))⟩⟩⟩⟩⟩⟩
theorem x_beginF {post : Int32 → SX → Prop} {p0 p1 p2 p3 p4 p5 : Int32} (hn : bc = nI 12) (k : post 9 (tc, ob, ps, su, ep, sd, bc, mA, mB, oX, oY, gY, wD, pC, sC, tk, tv, cb, sk, sv, vk, vv, bp, br, bh, bn, bs, bl, px, py, pm, cr, sn, sx, sy, sm, sp, dg)) : wpX_begin post (tc, ob, ps, su, ep, sd, bc, mA, mB, oX, oY, gY, wD, pC, sC, tk, tv, cb, sk, sv, vk, vv, bp, br, bh, bn, bs, bl, px, py, pm, cr, sn, sx, sy, sm, sp, dg) p0 p1 p2 p3 p4 p5 := by
  subst hn
  exact qs_f 12 12 (by omega) k
theorem y_enter {post : SY → Prop} {p0 p1 p2 p3 p4 : Int32} {n p : Nat} (hn : yi = nI n) (h12 : n < 12) (hp : p1 = nI p) (k : post (yt, yo, yh, nI (n + 1), nI (p + 1), ye, yp, ys, yc, nw, gn, bg, wd, tk, tv, dg, sk, sv, vk, vv, upd hw n p0, upd fr n (nI (p + 1)), upd og n ya, upd lf n p2, upd st n p3, upd la n p4, fm, fc, gr, wi, mn, qx, qy, ss, cl, cp, nx, ny)) : wpY_enter post (yt, yo, yh, yi, ya, ye, yp, ys, yc, nw, gn, bg, wd, tk, tv, dg, sk, sv, vk, vv, hw, fr, og, lf, st, la, fm, fc, gr, wi, mn, qx, qy, ss, cl, cp, nx, ny) p0 p1 p2 p3 p4 := by
  subst hn hp
  have hi : vp_in (nI n) 12 := vp_in_nI h12 (by omega)
  have e : (nI n).toNatClampNeg = n := zc_i (by omega)
  exact ⟨hi, nm_r (congrArg (fun q => upd hw q p0) e) ⟨hi, nm_r (show _ = upd fr n (nI (p + 1)) by rw [e, nI_1]) ⟨hi, nm_r (congrArg (fun q => upd og q ya) e) ⟨hi, nm_r (congrArg (fun q => upd lf q p2) e) ⟨hi, nm_r (congrArg (fun q => upd st q p3) e) ⟨hi, nm_r (congrArg (fun q => upd la q p4) e) (nm_r (nI_1 n) (nm_r (nI_1 p) k))⟩⟩⟩⟩⟩⟩
theorem y_ck335b {post : Int32 → SY → Prop} {op b : Int32} {n : Nat} (hyi : yi = nI n) (hn : n ≤ 12) (kb : ∀ Q : Int32 → Prop, Q b → wpY_begins Q (yt, yo, yh, yi, ya, ye, yp, ys, yc, nw, gn, bg, wd, tk, tv, dg, sk, sv, vk, vv, hw, fr, og, lf, st, la, fm, fc, gr, wi, mn, qx, qy, ss, cl, cp, nx, ny) op) (k9 : n = 12 → b ≠ 0 → post 9 (yt, yo, yh, yi, ya, ye, yp, ys, yc, nw, gn, bg, wd, tk, tv, dg, sk, sv, vk, vv, hw, fr, og, lf, st, la, fm, fc, gr, wi, mn, qx, qy, ss, cl, cp, nx, ny)) (k0 : ¬ (n = 12 ∧ b ≠ 0) → post 0 (yt, yo, yh, yi, ya, ye, yp, ys, yc, nw, gn, bg, wd, tk, tv, dg, sk, sv, vk, vv, hw, fr, og, lf, st, la, fm, fc, gr, wi, mn, qx, qy, ss, cl, cp, nx, ny)) : wY_check_335 post op yt yo yh yi ya ye yp ys yc nw gn bg wd tk tv dg sk sv vk vv hw fr og lf st la fm fc gr wi mn qx qy ss cl cp nx ny := by
  subst hyi
  refine pk_eq n 12 (fun h1 => kb _ (br_c (fun q => k0 (fun z => z.2 q)) (fun q => k9 h1 q))) (fun h1 => k0 (fun z => h1 z.1))
theorem zproc {t h j : Nat} (hS : ZST t tk h sk sv) (hj : j < h) (e : sk j = 1) : ∃ p : Nat, p < t ∧ sv j = nI p ∧ tk p = 2 := by
  rcases hS.2 j hj with q | q
  · rw [e] at q; exact absurd q (by decide)
  · exact q.2
theorem zlast (f : Nat → Int32) : ∀ n, (∀ j, j < n → f j = 0) ∨ ∃ k, k < n ∧ f k ≠ 0 ∧ ∀ j, k < j → j < n → f j = 0 := by
  intro n
  induction n with
  | zero => exact Or.inl (fun j hj => by omega)
  | succ n ih =>
    by_cases e : f n = 0
    · rcases ih with h | ⟨k, h1, h2, h3⟩
      · refine Or.inl (fun j hj => ?_)
        by_cases q : j = n
        · rw [q]; exact e
        · exact h j (by omega)
      · refine Or.inr ⟨k, by omega, h2, fun j hj hj2 => ?_⟩
        by_cases q : j = n
        · rw [q]; exact e
        · exact h3 j hj (by omega)
    · exact Or.inr ⟨n, by omega, e, fun j h1 h2 => by omega⟩
theorem zi_m (d : Nat) : nI d + (-1) = nI d - 1 := by grind
theorem x_ll_none {post : Int32 → SX → Prop} (k : post 8 (tc, ob, ps, su, ep, sd, bc, mA, mB, oX, oY, gY, wD, pC, sC, tk, tv, cb, sk, sv, vk, vv, bp, br, bh, bn, bs, bl, px, py, pm, cr, sn, sx, sy, sm, sp, dg)) : ∀ d, d ≤ 12 → (∀ j, j < d → bh j = 0) → wX_leaveLoop_7 post tc ob ps su ep sd bc mA mB oX oY gY wD pC sC tk tv cb sk sv vk vv bp br bh bn bs bl px py pm cr sn sx sy sm sp dg (d + 1) (nI d - 1) := by
  intro d
  induction d with
  | zero => intro _ _; exact br_t (by decide) k
  | succ d ih =>
    intro hd hz
    rw [nI_pred]
    refine qs_f d 0 (by omega) ⟨vp_in_nI (by omega) (by omega), br_t (by rw [zc_i (by omega)]; exact hz d (by omega)) (nm_r (zi_m d) (ih (by omega) (fun j hj => hz j (by omega))))⟩
theorem x_ll_some {post : Int32 → SX → Prop} {m : Nat} (hm : bh m ≠ 0) (k : post 0 (tc, ob, br m, su, ep, sd, nI m, mA, mB, oX, oY, gY, wD, pC, sC, tk, tv, cb, sk, sv, vk, vv, bp, br, bh, bn, bs, bl, px, py, pm, cr, sn, sx, sy, sm, sp, dg)) : ∀ d, m + d < 12 → (∀ j, m < j → j ≤ m + d → bh j = 0) → wX_leaveLoop_7 post tc ob ps su ep sd bc mA mB oX oY gY wD pC sC tk tv cb sk sv vk vv bp br bh bn bs bl px py pm cr sn sx sy sm sp dg (d + 1) (nI (m + d)) := by
  intro d
  induction d with
  | zero =>
    intro hd _
    have e : (nI (m + 0)).toNatClampNeg = m := zc_i (by omega)
    refine qs_f (m + 0) 0 (by omega) ⟨vp_in_nI (by omega) (by omega), br_f (by rw [e]; exact hm) ⟨vp_in_nI (by omega) (by omega), nm_r (congrArg br e) k⟩⟩
  | succ d ih =>
    intro hd hz
    refine qs_f (m + (d + 1)) 0 (by omega) ⟨vp_in_nI (by omega) (by omega), br_t (by rw [zc_i (by omega)]; exact hz _ (by omega) (by omega)) (nm_r (pk_m1 (m + d)) (ih (by omega) (fun j h1 h2 => hz j h1 (by omega))))⟩
theorem y_ll_none {post : Int32 → Prop} (k : post (-1)) : ∀ d, d ≤ 12 → (∀ j, j < d → hw j = 0) → wY_loopInside_7 post yt yo yh yi ya ye yp ys yc nw gn bg wd tk tv dg sk sv vk vv hw fr og lf st la fm fc gr wi mn qx qy ss cl cp nx ny (d + 1) (nI d - 1) := by
  intro d
  induction d with
  | zero => intro _ _; exact br_t (by decide) k
  | succ d ih =>
    intro hd hz
    rw [nI_pred]
    refine qs_f d 0 (by omega) ⟨vp_in_nI (by omega) (by omega), br_t (by rw [zc_i (by omega)]; exact hz d (by omega)) (nm_r (zi_m d) (ih (by omega) (fun j hj => hz j (by omega))))⟩
theorem y_ll_some {post : Int32 → Prop} {m : Nat} (hm : hw m ≠ 0) (k : post (nI m)) : ∀ d, m + d < 12 → (∀ j, m < j → j ≤ m + d → hw j = 0) → wY_loopInside_7 post yt yo yh yi ya ye yp ys yc nw gn bg wd tk tv dg sk sv vk vv hw fr og lf st la fm fc gr wi mn qx qy ss cl cp nx ny (d + 1) (nI (m + d)) := by
  intro d
  induction d with
  | zero =>
    intro hd _
    have e : (nI (m + 0)).toNatClampNeg = m := zc_i (by omega)
    exact qs_f (m + 0) 0 (by omega) ⟨vp_in_nI (by omega) (by omega), br_f (by rw [e]; exact hm) k⟩
  | succ d ih =>
    intro hd hz
    refine qs_f (m + (d + 1)) 0 (by omega) ⟨vp_in_nI (by omega) (by omega), br_t (by rw [zc_i (by omega)]; exact hz _ (by omega) (by omega)) (nm_r (pk_m1 (m + d)) (ih (by omega) (fun j h1 h2 => hz j h1 (by omega))))⟩
theorem st_exec {t h n a c s pc : Nat} {PX : Int32 → SX → Prop} (hR : ZR t h n a c mA mB oX oY gY wD pC tk tv cb sk sv vk vv bp br bh bn bs bl px py pm cr sn sx sy sm sp hw fr og lf st la fm fc gr wi mn qx qy ss cl cp) (ha : a < t) (hk : tk a = 1) (hv : tv a = nI 14) (hpc : pC = nI pc) (hp48 : pc ≤ 48) (hE : ZE1 14 h sk pc = 0)
    (H : ∀ (e : Int32) (u' : SX) (v' : SY), ZStep a (s + 1) e u' v' → (∀ PY : SY → Prop, PY v' → wpY_execute PY (nI t, 0, nI h, nI n, nI a, 0, -1, nI (s + 1), nI c, nw, gn, bg, wd, tk, tv, dg, sk, sv, vk, vv, hw, fr, og, lf, st, la, fm, fc, gr, wi, mn, qx, qy, ss, cl, cp, nx, ny)) → PX e u') : wpX_execute PX (nI t, 0, nI a, nI s, -1, nI h, nI n, mA, mB, oX, oY, gY, wD, pC, nI c, tk, tv, cb, sk, sv, vk, vv, bp, br, bh, bn, bs, bl, px, py, pm, cr, sn, sx, sy, sm, sp, dg) (nI a) := by
  have hR' := hR
  obtain ⟨hT, hS, hV, hF, hPO, hG, hSV⟩ := hR
  have ht := hT.1
  have hh := hS.1
  have hmn := zg_mn hG hpc
  have hi : vp_in (nI a) 100 := vp_in_nI (by omega) (by omega)
  have e : (nI a).toNatClampNeg = a := zc_i (by omega)
  have ek : tk (nI a).toNatClampNeg = 1 := by rw [e]; exact hk
  have ev : tv (nI a).toNatClampNeg = nI 14 := by rw [e]; exact hv
  have hpn := po_next hPO ha (by rw [hk]; decide) (by rw [hk]; decide)
  obtain ⟨z1, z2, z3, z4⟩ := ze_0 hE
  have z1 : 1 ≤ h := z1
  have hn12 := hF.1
  obtain ⟨p, hp, ep, hp2⟩ := zproc hS (j := h - 1 - 0) (by omega) (z2 rfl 0 (by decide))
  refine nm_r (nI_1 s) (nm_r (nI_1 a) ⟨hi, br_t ek ⟨hi, nm_r ev (x_oe0 (by decide) hh hp48 rfl hpc hE (br_t rfl (br_t (by decide) (br_f (by decide) (br_f (by decide) (br_f (by decide) (br_f (by decide) ?_)))))))⟩⟩)
  unfold wpX_control
  refine x_operand (j := 0) rfl rfl hh (by omega) (x_operandA (j := 1) rfl rfl hh (by omega) (fun _ => x_operandA (j := 2) rfl rfl hh (by omega) (fun _ => br_f (by decide) (br_f (by decide) (br_t rfl ?_)))))
  by_cases h12 : n = 12
  · refine x_beginF (congrArg nI h12) (H 9 _ (nI t, 0, nI h, nI n, nI a, 9, -1, nI (s + 1), nI c, 0, 0, 0, 0, tk, tv, dg, sk, sv, vk, vv, hw, fr, og, lf, st, la, fm, fc, gr, wi, mn, qx, qy, ss, cl, cp, nx, ny) (zs_er hR' (by decide)) (fun PY hp' => ?_))
    refine ⟨hi, nm_r ev ⟨hi, nm_r ek (br_f (by decide) (br_f (by decide) (br_f (by decide) (br_t rfl ?_))))⟩⟩
    unfold wY_execute_245 wpY_operate
    refine y_check (by decide) hh hp48 (zst_k hS) rfl hmn (fun z => absurd hE z) (fun _ z => absurd z (by decide)) (fun _ _ _ => y_ck87 rfl hh z1 hmn hp48 (by decide) (by decide) (by decide) (by decide) (by decide) (by decide) (by decide) (by decide) (by decide) (by decide) (by decide) (y_ck335b (b := 1) (n := n) rfl (by omega) (fun Q q => br_t rfl q) (fun _ _ => br_f (by decide) hp') (fun z => absurd ⟨h12, by decide⟩ z)))
  · refine x_begin rfl (by omega) ep (pk_sub (b := 1) z1) (by decide) (H 0 _ (nI t, 0, nI (h - 1), nI (n + 1), nI (p + 1), 0, -1, nI (s + 1), nI c, 0, 0, 0, 0, tk, tv, dg, sk, sv, vk, vv, upd hw n 0, upd fr n (nI (p + 1)), upd og n (nI a), upd lf n 0, upd st n 0, upd la n 0, fm, fc, gr, wi, mn, qx, qy, ss, cl, cp, nx, ny) (zs_ok ⟨hT, zst_le hS (by omega), hV, zfr_push hF (by omega) hp hp2 hpn (fun q => absurd q (by decide)) (fun q => absurd q (by decide)), po_in hT hp hp2, hG, hSV⟩ rfl rfl rfl rfl rfl rfl rfl rfl) (fun PY hp' => ?_))
    refine ⟨hi, nm_r ev ⟨hi, nm_r ek (br_f (by decide) (br_f (by decide) (br_f (by decide) (br_t rfl ?_))))⟩⟩
    unfold wY_execute_245 wpY_operate
    refine y_check (by decide) hh hp48 (zst_k hS) rfl hmn (fun z => absurd hE z) (fun _ z => absurd z (by decide)) (fun _ _ _ => y_ck87 rfl hh z1 hmn hp48 (by decide) (by decide) (by decide) (by decide) (by decide) (by decide) (by decide) (by decide) (by decide) (by decide) (by decide) (y_ck335b (b := 1) (n := n) rfl (by omega) (fun Q q => br_t rfl q) (fun z _ => absurd z h12) (fun _ => br_t rfl ?_)))
    refine br_t (by decide) (br_f (by decide) ?_)
    refine br_f (by decide) (y_top (j := 0) rfl rfl hh (by omega) ?_)
    unfold wY_control_15
    refine (fun Q q => br_t rfl q) _ (br_t rfl (?_))
    exact nm_r (pk_sub (b := 1) z1) (y_enter rfl (by omega) ep (br_f (by decide) hp'))
theorem st_loop {t h n a c s pc : Nat} {PX : Int32 → SX → Prop} (hR : ZR t h n a c mA mB oX oY gY wD pC tk tv cb sk sv vk vv bp br bh bn bs bl px py pm cr sn sx sy sm sp hw fr og lf st la fm fc gr wi mn qx qy ss cl cp) (ha : a < t) (hk : tk a = 1) (hv : tv a = nI 19) (hpc : pC = nI pc) (hp48 : pc ≤ 48) (hE : ZE1 19 h sk pc = 0)
    (H : ∀ (e : Int32) (u' : SX) (v' : SY), ZStep a (s + 1) e u' v' → (∀ PY : SY → Prop, PY v' → wpY_execute PY (nI t, 0, nI h, nI n, nI a, 0, -1, nI (s + 1), nI c, nw, gn, bg, wd, tk, tv, dg, sk, sv, vk, vv, hw, fr, og, lf, st, la, fm, fc, gr, wi, mn, qx, qy, ss, cl, cp, nx, ny)) → PX e u') : wpX_execute PX (nI t, 0, nI a, nI s, -1, nI h, nI n, mA, mB, oX, oY, gY, wD, pC, nI c, tk, tv, cb, sk, sv, vk, vv, bp, br, bh, bn, bs, bl, px, py, pm, cr, sn, sx, sy, sm, sp, dg) (nI a) := by
  have hR' := hR
  obtain ⟨hT, hS, hV, hF, hPO, hG, hSV⟩ := hR
  have ht := hT.1
  have hh := hS.1
  have hmn := zg_mn hG hpc
  have hi : vp_in (nI a) 100 := vp_in_nI (by omega) (by omega)
  have e : (nI a).toNatClampNeg = a := zc_i (by omega)
  have ek : tk (nI a).toNatClampNeg = 1 := by rw [e]; exact hk
  have ev : tv (nI a).toNatClampNeg = nI 19 := by rw [e]; exact hv
  have hpn := po_next hPO ha (by rw [hk]; decide) (by rw [hk]; decide)
  obtain ⟨z1, z2, z3, z4⟩ := ze_0 hE
  have z1 : 1 ≤ h := z1
  have hn12 := hF.1
  obtain ⟨p, hp, ep, hp2⟩ := zproc hS (j := h - 1 - 0) (by omega) (z2 rfl 0 (by decide))
  refine nm_r (nI_1 s) (nm_r (nI_1 a) ⟨hi, br_t ek ⟨hi, nm_r ev (x_oe0 (by decide) hh hp48 rfl hpc hE (br_t rfl (br_t (by decide) (br_f (by decide) (br_f (by decide) (br_f (by decide) (br_f (by decide) ?_)))))))⟩⟩)
  unfold wpX_control
  refine x_operand (j := 0) rfl rfl hh (by omega) (x_operandA (j := 1) rfl rfl hh (by omega) (fun _ => x_operandA (j := 2) rfl rfl hh (by omega) (fun _ => br_f (by decide) (br_f (by decide) (br_f (by decide) (br_f (by decide) (br_f (by decide) (br_f (by decide) (br_f (by decide) (br_t rfl ?_))))))))))
  by_cases h12 : n = 12
  · refine x_beginF (congrArg nI h12) (H 9 _ (nI t, 0, nI h, nI n, nI a, 9, -1, nI (s + 1), nI c, 0, 0, 0, 0, tk, tv, dg, sk, sv, vk, vv, hw, fr, og, lf, st, la, fm, fc, gr, wi, mn, qx, qy, ss, cl, cp, nx, ny) (zs_er hR' (by decide)) (fun PY hp' => ?_))
    refine ⟨hi, nm_r ev ⟨hi, nm_r ek (br_f (by decide) (br_f (by decide) (br_f (by decide) (br_t rfl ?_))))⟩⟩
    unfold wY_execute_245 wpY_operate
    refine y_check (by decide) hh hp48 (zst_k hS) rfl hmn (fun z => absurd hE z) (fun _ z => absurd z (by decide)) (fun _ _ _ => y_ck87 rfl hh z1 hmn hp48 (by decide) (by decide) (by decide) (by decide) (by decide) (by decide) (by decide) (by decide) (by decide) (by decide) (by decide) (y_ck335b (b := 1) (n := n) rfl (by omega) (fun Q q => br_f (by decide) (br_f (by decide) (br_t rfl q))) (fun _ _ => br_f (by decide) hp') (fun z => absurd ⟨h12, by decide⟩ z)))
  · refine x_begin rfl (by omega) ep (pk_sub (b := 1) z1) (by decide) (H 0 _ (nI t, 0, nI (h - 1), nI (n + 1), nI (p + 1), 0, -1, nI (s + 1), nI c, 0, 0, 0, 0, tk, tv, dg, sk, sv, vk, vv, upd hw n 3, upd fr n (nI (p + 1)), upd og n (nI a), upd lf n 0, upd st n 0, upd la n 0, fm, fc, gr, wi, mn, qx, qy, ss, cl, cp, nx, ny) (zs_ok ⟨hT, zst_le hS (by omega), hV, zfr_push hF (by omega) hp hp2 hpn (fun q => absurd q (by decide)) (fun q => absurd q (by decide)), po_in hT hp hp2, hG, hSV⟩ rfl rfl rfl rfl rfl rfl rfl rfl) (fun PY hp' => ?_))
    refine ⟨hi, nm_r ev ⟨hi, nm_r ek (br_f (by decide) (br_f (by decide) (br_f (by decide) (br_t rfl ?_))))⟩⟩
    unfold wY_execute_245 wpY_operate
    refine y_check (by decide) hh hp48 (zst_k hS) rfl hmn (fun z => absurd hE z) (fun _ z => absurd z (by decide)) (fun _ _ _ => y_ck87 rfl hh z1 hmn hp48 (by decide) (by decide) (by decide) (by decide) (by decide) (by decide) (by decide) (by decide) (by decide) (by decide) (by decide) (y_ck335b (b := 1) (n := n) rfl (by omega) (fun Q q => br_f (by decide) (br_f (by decide) (br_t rfl q))) (fun z _ => absurd z h12) (fun _ => br_t rfl ?_)))
    refine br_t (by decide) (br_f (by decide) ?_)
    refine br_f (by decide) (y_top (j := 0) rfl rfl hh (by omega) ?_)
    unfold wY_control_15
    refine (fun Q q => br_f (by decide) (br_f (by decide) (br_t rfl q))) _ (br_f (by decide) (br_f (by decide) (br_f (by decide) (br_f (by decide) (br_f (by decide) (br_t rfl (?_)))))))
    exact nm_r (pk_sub (b := 1) z1) (y_enter rfl (by omega) ep (br_f (by decide) hp'))
theorem st_ifelse {t h n a c s pc : Nat} {PX : Int32 → SX → Prop} (hR : ZR t h n a c mA mB oX oY gY wD pC tk tv cb sk sv vk vv bp br bh bn bs bl px py pm cr sn sx sy sm sp hw fr og lf st la fm fc gr wi mn qx qy ss cl cp) (ha : a < t) (hk : tk a = 1) (hv : tv a = nI 16) (hpc : pC = nI pc) (hp48 : pc ≤ 48) (hE : ZE1 16 h sk pc = 0)
    (H : ∀ (e : Int32) (u' : SX) (v' : SY), ZStep a (s + 1) e u' v' → (∀ PY : SY → Prop, PY v' → wpY_execute PY (nI t, 0, nI h, nI n, nI a, 0, -1, nI (s + 1), nI c, nw, gn, bg, wd, tk, tv, dg, sk, sv, vk, vv, hw, fr, og, lf, st, la, fm, fc, gr, wi, mn, qx, qy, ss, cl, cp, nx, ny)) → PX e u') : wpX_execute PX (nI t, 0, nI a, nI s, -1, nI h, nI n, mA, mB, oX, oY, gY, wD, pC, nI c, tk, tv, cb, sk, sv, vk, vv, bp, br, bh, bn, bs, bl, px, py, pm, cr, sn, sx, sy, sm, sp, dg) (nI a) := by
  have hR' := hR
  obtain ⟨hT, hS, hV, hF, hPO, hG, hSV⟩ := hR
  have ht := hT.1
  have hh := hS.1
  have hmn := zg_mn hG hpc
  have hi : vp_in (nI a) 100 := vp_in_nI (by omega) (by omega)
  have e : (nI a).toNatClampNeg = a := zc_i (by omega)
  have ek : tk (nI a).toNatClampNeg = 1 := by rw [e]; exact hk
  have ev : tv (nI a).toNatClampNeg = nI 16 := by rw [e]; exact hv
  have hpn := po_next hPO ha (by rw [hk]; decide) (by rw [hk]; decide)
  obtain ⟨z1, z2, z3, z4⟩ := ze_0 hE
  have z1 : 3 ≤ h := z1
  have hn12 := hF.1
  obtain ⟨p, hp, ep, hp2⟩ := zproc hS (j := h - 1 - 0) (by omega) (z2 rfl 0 (by decide))
  obtain ⟨q, hq, eq, hq2⟩ := zproc hS (j := h - 1 - 1) (by omega) (z2 rfl 1 (by decide))
  refine nm_r (nI_1 s) (nm_r (nI_1 a) ⟨hi, br_t ek ⟨hi, nm_r ev (x_oe0 (by decide) hh hp48 rfl hpc hE (br_t rfl (br_t (by decide) (br_f (by decide) (br_f (by decide) (br_f (by decide) (br_f (by decide) ?_)))))))⟩⟩)
  unfold wpX_control
  refine x_operand (j := 0) rfl rfl hh (by omega) (x_operand (j := 1) rfl rfl hh (by omega) (x_operand (j := 2) rfl rfl hh (by omega) (br_f (by decide) (br_f (by decide) (br_f (by decide) (br_f (by decide) (br_t rfl ?_)))))))
  have key : ∀ (r : Int32) (m : Nat), r = nI m → m < t → tk m = 2 → (∀ PY : SY → Prop, wY_control_125 PY 1 r 0 (nI t) 0 (nI (h - 3)) (nI n) (nI a) 0 (-1) (nI (s + 1)) (nI c) 0 0 0 0 tk tv dg sk sv vk vv hw fr og lf st la fm fc gr wi mn qx qy ss cl cp nx ny → wpY_control PY (nI t, 0, nI h, nI n, nI a, 0, -1, nI (s + 1), nI c, 0, 0, 0, 0, tk, tv, dg, sk, sv, vk, vv, hw, fr, og, lf, st, la, fm, fc, gr, wi, mn, qx, qy, ss, cl, cp, nx, ny) (nI 16)) → wX_control_106 (fun r u => match u with | (tc, ob, ps, su, ep, sd, bc, mA, mB, oX, oY, gY, wD, pC, sC, tk, tv, cb, sk, sv, vk, vv, bp, br, bh, bn, bs, bl, px, py, pm, cr, sn, sx, sy, sm, sp, dg) => PX r (tc, ob, ps, su, ep, sd, bc, mA, mB, oX, oY, gY, wD, pC, sC, tk, tv, cb, sk, sv, vk, vv, bp, br, bh, bn, bs, bl, px, py, pm, cr, sn, sx, sy, sm, sp, dg)) r 3 (nI t) 0 (nI (a + 1)) (nI (s + 1)) (-1) (nI h) (nI n) mA mB oX oY gY wD pC (nI c) tk tv cb sk sv vk vv bp br bh bn bs bl px py pm cr sn sx sy sm sp dg := by
    intro r m er hm hm2 HY
    unfold wX_control_106
    by_cases h12 : n = 12
    · refine x_beginF (congrArg nI h12) (H 9 _ (nI t, 0, nI h, nI n, nI a, 9, -1, nI (s + 1), nI c, 0, 0, 0, 0, tk, tv, dg, sk, sv, vk, vv, hw, fr, og, lf, st, la, fm, fc, gr, wi, mn, qx, qy, ss, cl, cp, nx, ny) (zs_er hR' (by decide)) (fun PY hp' => ?_))
      refine ⟨hi, nm_r ev ⟨hi, nm_r ek (br_f (by decide) (br_f (by decide) (br_f (by decide) (br_t rfl ?_))))⟩⟩
      unfold wY_execute_245 wpY_operate
      refine y_check (by decide) hh hp48 (zst_k hS) rfl hmn (fun z => absurd hE z) (fun _ z => absurd z (by decide)) (fun _ _ _ => y_ck87 rfl hh z1 hmn hp48 (by decide) (by decide) (by decide) (by decide) (by decide) (by decide) (by decide) (by decide) (by decide) (by decide) (by decide) (y_ck335b (b := 1) (n := n) rfl (by omega) (fun Q q => br_f (by decide) (br_t rfl q)) (fun _ _ => br_f (by decide) hp') (fun z => absurd ⟨h12, by decide⟩ z)))
    · refine x_begin rfl (by omega) er (pk_sub (b := 3) z1) (by decide) (H 0 _ (nI t, 0, nI (h - 3), nI (n + 1), nI (m + 1), 0, -1, nI (s + 1), nI c, 0, 0, 0, 0, tk, tv, dg, sk, sv, vk, vv, upd hw n 0, upd fr n (nI (m + 1)), upd og n (nI a), upd lf n 0, upd st n 0, upd la n 0, fm, fc, gr, wi, mn, qx, qy, ss, cl, cp, nx, ny) (zs_ok ⟨hT, zst_le hS (by omega), hV, zfr_push hF (by omega) hm hm2 hpn (fun q => absurd q (by decide)) (fun q => absurd q (by decide)), po_in hT hm hm2, hG, hSV⟩ rfl rfl rfl rfl rfl rfl rfl rfl) (fun PY hp' => ?_))
      refine ⟨hi, nm_r ev ⟨hi, nm_r ek (br_f (by decide) (br_f (by decide) (br_f (by decide) (br_t rfl ?_))))⟩⟩
      unfold wY_execute_245 wpY_operate
      refine y_check (by decide) hh hp48 (zst_k hS) rfl hmn (fun z => absurd hE z) (fun _ z => absurd z (by decide)) (fun _ _ _ => y_ck87 rfl hh z1 hmn hp48 (by decide) (by decide) (by decide) (by decide) (by decide) (by decide) (by decide) (by decide) (by decide) (by decide) (by decide) (y_ck335b (b := 1) (n := n) rfl (by omega) (fun Q q => br_f (by decide) (br_t rfl q)) (fun z _ => absurd z h12) (fun _ => br_t rfl ?_)))
      refine br_t (by decide) (br_f (by decide) (HY _ ?_))
      unfold wY_control_125
      exact y_enter rfl (by omega) er (br_f (by decide) hp')
  have Yin : ∀ PY : SY → Prop, ((sv (h - 1 - 2) = 0 → wY_control_125 PY 1 (sv (h - 1 - 0)) 0 (nI t) 0 (nI (h - 3)) (nI n) (nI a) 0 (-1) (nI (s + 1)) (nI c) 0 0 0 0 tk tv dg sk sv vk vv hw fr og lf st la fm fc gr wi mn qx qy ss cl cp nx ny) ∧ (¬ sv (h - 1 - 2) = 0 → wY_control_125 PY 1 (sv (h - 1 - 1)) 0 (nI t) 0 (nI (h - 3)) (nI n) (nI a) 0 (-1) (nI (s + 1)) (nI c) 0 0 0 0 tk tv dg sk sv vk vv hw fr og lf st la fm fc gr wi mn qx qy ss cl cp nx ny)) → wpY_control PY (nI t, 0, nI h, nI n, nI a, 0, -1, nI (s + 1), nI c, 0, 0, 0, 0, tk, tv, dg, sk, sv, vk, vv, hw, fr, og, lf, st, la, fm, fc, gr, wi, mn, qx, qy, ss, cl, cp, nx, ny) (nI 16) := by
    intro PY k
    refine br_f (by decide) (y_top (j := 0) rfl rfl hh (by omega) ?_)
    unfold wY_control_15
    refine (fun Q q => br_f (by decide) (br_t rfl q)) _ (br_f (by decide) (br_f (by decide) (br_t rfl ?_)))
    exact y_top (j := 1) rfl rfl hh (by omega) (y_top (j := 2) rfl rfl hh (by omega) (nm_r (pk_sub (b := 3) z1) k))
  exact br_c (fun q0 => key _ p ep hp hp2 (fun PY k => Yin PY (br_t q0 k))) (fun q0 => key _ q eq hq hq2 (fun PY k => Yin PY (br_f q0 k)))
theorem st_if {t h n a c s pc : Nat} {PX : Int32 → SX → Prop} (hR : ZR t h n a c mA mB oX oY gY wD pC tk tv cb sk sv vk vv bp br bh bn bs bl px py pm cr sn sx sy sm sp hw fr og lf st la fm fc gr wi mn qx qy ss cl cp) (ha : a < t) (hk : tk a = 1) (hv : tv a = nI 15) (hpc : pC = nI pc) (hp48 : pc ≤ 48) (hE : ZE1 15 h sk pc = 0)
    (H : ∀ (e : Int32) (u' : SX) (v' : SY), ZStep a (s + 1) e u' v' → (∀ PY : SY → Prop, PY v' → wpY_execute PY (nI t, 0, nI h, nI n, nI a, 0, -1, nI (s + 1), nI c, nw, gn, bg, wd, tk, tv, dg, sk, sv, vk, vv, hw, fr, og, lf, st, la, fm, fc, gr, wi, mn, qx, qy, ss, cl, cp, nx, ny)) → PX e u') : wpX_execute PX (nI t, 0, nI a, nI s, -1, nI h, nI n, mA, mB, oX, oY, gY, wD, pC, nI c, tk, tv, cb, sk, sv, vk, vv, bp, br, bh, bn, bs, bl, px, py, pm, cr, sn, sx, sy, sm, sp, dg) (nI a) := by
  have hR' := hR
  obtain ⟨hT, hS, hV, hF, hPO, hG, hSV⟩ := hR
  have ht := hT.1
  have hh := hS.1
  have hmn := zg_mn hG hpc
  have hi : vp_in (nI a) 100 := vp_in_nI (by omega) (by omega)
  have e : (nI a).toNatClampNeg = a := zc_i (by omega)
  have ek : tk (nI a).toNatClampNeg = 1 := by rw [e]; exact hk
  have ev : tv (nI a).toNatClampNeg = nI 15 := by rw [e]; exact hv
  have hpn := po_next hPO ha (by rw [hk]; decide) (by rw [hk]; decide)
  obtain ⟨z1, z2, z3, z4⟩ := ze_0 hE
  have z1 : 2 ≤ h := z1
  have hn12 := hF.1
  obtain ⟨p, hp, ep, hp2⟩ := zproc hS (j := h - 1 - 0) (by omega) (z2 rfl 0 (by decide))
  have hxc : sv (h - 1 - 1) = 0 ↔ sv (h - 1 - 1) = 0 := Iff.rfl
  have kb : ∀ Q : Int32 → Prop, Q (if sv (h - 1 - 1) = 0 then (0 : Int32) else 1) → wpY_begins Q (nI t, 0, nI h, nI n, nI a, 0, -1, nI (s + 1), nI c, 0, 0, 0, 0, tk, tv, dg, sk, sv, vk, vv, hw, fr, og, lf, st, la, fm, fc, gr, wi, mn, qx, qy, ss, cl, cp, nx, ny) (nI 15) := fun Q q => br_f (by decide) (br_f (by decide) (br_f (by decide) (br_t rfl (y_top (j := 1) rfl rfl hh (by omega) ((zh Q _ _ _).mpr q)))))
  have Yct : ∀ PY : SY → Prop, (((if sv (h - 1 - 1) = 0 then (0 : Int32) else 1) = 0 → PY (nI t, 0, nI (h - 2), nI n, nI a + 1, 0, -1, nI (s + 1), nI c, 0, 0, 0, 0, tk, tv, dg, sk, sv, vk, vv, hw, fr, og, lf, st, la, fm, fc, gr, wi, mn, qx, qy, ss, cl, cp, nx, ny)) ∧ (¬ (if sv (h - 1 - 1) = 0 then (0 : Int32) else 1) = 0 → wpY_enter (fun u => match u with | (yt₁, yo₁, yh₁, yi₁, ya₁, ye₁, yp₁, ys₁, yc₁, nw₁, gn₁, bg₁, wd₁, tk₁, tv₁, dg₁, sk₁, sv₁, vk₁, vv₁, hw₁, fr₁, og₁, lf₁, st₁, la₁, fm₁, fc₁, gr₁, wi₁, mn₁, qx₁, qy₁, ss₁, cl₁, cp₁, nx₁, ny₁) => wY_control_289 PY (if sv (h - 1 - 1) = 0 then (0 : Int32) else 1) yt₁ yo₁ yh₁ yi₁ ya₁ ye₁ yp₁ ys₁ yc₁ nw₁ gn₁ bg₁ wd₁ tk₁ tv₁ dg₁ sk₁ sv₁ vk₁ vv₁ hw₁ fr₁ og₁ lf₁ st₁ la₁ fm₁ fc₁ gr₁ wi₁ mn₁ qx₁ qy₁ ss₁ cl₁ cp₁ nx₁ ny₁) (nI t, 0, nI (h - 2), nI n, nI a, 0, -1, nI (s + 1), nI c, 0, 0, 0, 0, tk, tv, dg, sk, sv, vk, vv, hw, fr, og, lf, st, la, fm, fc, gr, wi, mn, qx, qy, ss, cl, cp, nx, ny) 0 (sv (h - 1 - 0)) 0 0 0)) → wpY_control PY (nI t, 0, nI h, nI n, nI a, 0, -1, nI (s + 1), nI c, 0, 0, 0, 0, tk, tv, dg, sk, sv, vk, vv, hw, fr, og, lf, st, la, fm, fc, gr, wi, mn, qx, qy, ss, cl, cp, nx, ny) (nI 15) := by
    intro PY k
    refine br_f (by decide) (y_top (j := 0) rfl rfl hh (by omega) ?_)
    unfold wY_control_15
    refine kb _ ?_
    exact br_f (by decide) (br_t rfl (nm_r (pk_sub (b := 2) z1) (br_c (fun q => br_t q (nm_e (k.1 q))) (fun q => k.2 q))))
  refine nm_r (nI_1 s) (nm_r (nI_1 a) ⟨hi, br_t ek ⟨hi, nm_r ev (x_oe0 (by decide) hh hp48 rfl hpc hE (br_t rfl (br_t (by decide) (br_f (by decide) (br_f (by decide) (br_f (by decide) (br_f (by decide) ?_)))))))⟩⟩)
  unfold wpX_control
  refine x_operand (j := 0) rfl rfl hh (by omega) (x_operand (j := 1) rfl rfl hh (by omega) (x_operandA (j := 2) rfl rfl hh (by omega) (fun _ => br_f (by decide) (br_f (by decide) (br_f (by decide) (br_t rfl ?_))))))
  by_cases q0 : sv (h - 1 - 1) = 0
  · refine br_t (hxc.mpr q0) (nm_r (pk_sub (b := 2) z1) (H 0 _ (nI t, 0, nI (h - 2), nI n, nI a + 1, 0, -1, nI (s + 1), nI c, 0, 0, 0, 0, tk, tv, dg, sk, sv, vk, vv, hw, fr, og, lf, st, la, fm, fc, gr, wi, mn, qx, qy, ss, cl, cp, nx, ny) (zs_ok ⟨hT, zst_le hS (by omega), hV, hF, hpn, hG, hSV⟩ rfl (nI_1 a) rfl rfl rfl rfl rfl rfl) (fun PY hp' => ?_)))
    refine ⟨hi, nm_r ev ⟨hi, nm_r ek (br_f (by decide) (br_f (by decide) (br_f (by decide) (br_t rfl ?_))))⟩⟩
    unfold wY_execute_245 wpY_operate
    refine y_check (by decide) hh hp48 (zst_k hS) rfl hmn (fun z => absurd hE z) (fun _ z => absurd z (by decide)) (fun _ _ _ => y_ck87 rfl hh z1 hmn hp48 (by decide) (by decide) (by decide) (by decide) (by decide) (by decide) (by decide) (by decide) (by decide) (by decide) (by decide) (y_ck335b (b := (if sv (h - 1 - 1) = 0 then (0 : Int32) else 1)) (n := n) rfl (by omega) kb (fun _ z => absurd (if_pos q0) z) (fun _ => br_t rfl ?_)))
    exact br_t (by decide) (br_f (by decide) (Yct _ (br_t (if_pos q0) hp')))
  · refine br_f (fun z => q0 (hxc.mp z)) ?_
    by_cases h12 : n = 12
    · refine x_beginF (congrArg nI h12) (H 9 _ (nI t, 0, nI h, nI n, nI a, 9, -1, nI (s + 1), nI c, 0, 0, 0, 0, tk, tv, dg, sk, sv, vk, vv, hw, fr, og, lf, st, la, fm, fc, gr, wi, mn, qx, qy, ss, cl, cp, nx, ny) (zs_er hR' (by decide)) (fun PY hp' => ?_))
      refine ⟨hi, nm_r ev ⟨hi, nm_r ek (br_f (by decide) (br_f (by decide) (br_f (by decide) (br_t rfl ?_))))⟩⟩
      unfold wY_execute_245 wpY_operate
      refine y_check (by decide) hh hp48 (zst_k hS) rfl hmn (fun z => absurd hE z) (fun _ z => absurd z (by decide)) (fun _ _ _ => y_ck87 rfl hh z1 hmn hp48 (by decide) (by decide) (by decide) (by decide) (by decide) (by decide) (by decide) (by decide) (by decide) (by decide) (by decide) (y_ck335b (b := (if sv (h - 1 - 1) = 0 then (0 : Int32) else 1)) (n := n) rfl (by omega) kb (fun _ _ => br_f (by decide) hp') (fun z => absurd ⟨h12, by rw [if_neg q0]; decide⟩ z)))
    · refine x_begin rfl (by omega) ep (pk_sub (b := 2) z1) (by decide) (H 0 _ (nI t, 0, nI (h - 2), nI (n + 1), nI (p + 1), 0, -1, nI (s + 1), nI c, 0, 0, 0, 0, tk, tv, dg, sk, sv, vk, vv, upd hw n 0, upd fr n (nI (p + 1)), upd og n (nI a), upd lf n 0, upd st n 0, upd la n 0, fm, fc, gr, wi, mn, qx, qy, ss, cl, cp, nx, ny) (zs_ok ⟨hT, zst_le hS (by omega), hV, zfr_push hF (by omega) hp hp2 hpn (fun q => absurd q (by decide)) (fun q => absurd q (by decide)), po_in hT hp hp2, hG, hSV⟩ rfl rfl rfl rfl rfl rfl rfl rfl) (fun PY hp' => ?_))
      refine ⟨hi, nm_r ev ⟨hi, nm_r ek (br_f (by decide) (br_f (by decide) (br_f (by decide) (br_t rfl ?_))))⟩⟩
      unfold wY_execute_245 wpY_operate
      refine y_check (by decide) hh hp48 (zst_k hS) rfl hmn (fun z => absurd hE z) (fun _ z => absurd z (by decide)) (fun _ _ _ => y_ck87 rfl hh z1 hmn hp48 (by decide) (by decide) (by decide) (by decide) (by decide) (by decide) (by decide) (by decide) (by decide) (by decide) (by decide) (y_ck335b (b := (if sv (h - 1 - 1) = 0 then (0 : Int32) else 1)) (n := n) rfl (by omega) kb (fun z _ => absurd z h12) (fun _ => br_t rfl ?_)))
      refine br_t (by decide) (br_f (by decide) (Yct _ (br_f (by rw [if_neg q0]; decide) ?_)))
      exact y_enter rfl (by omega) ep (br_f (by rw [if_neg q0]; decide) hp')
theorem st_repeat {t h n a c s pc : Nat} {PX : Int32 → SX → Prop} (hR : ZR t h n a c mA mB oX oY gY wD pC tk tv cb sk sv vk vv bp br bh bn bs bl px py pm cr sn sx sy sm sp hw fr og lf st la fm fc gr wi mn qx qy ss cl cp) (ha : a < t) (hk : tk a = 1) (hv : tv a = nI 17) (hpc : pC = nI pc) (hp48 : pc ≤ 48) (hE : ZE1 17 h sk pc = 0)
    (H : ∀ (e : Int32) (u' : SX) (v' : SY), ZStep a (s + 1) e u' v' → (∀ PY : SY → Prop, PY v' → wpY_execute PY (nI t, 0, nI h, nI n, nI a, 0, -1, nI (s + 1), nI c, nw, gn, bg, wd, tk, tv, dg, sk, sv, vk, vv, hw, fr, og, lf, st, la, fm, fc, gr, wi, mn, qx, qy, ss, cl, cp, nx, ny)) → PX e u') : wpX_execute PX (nI t, 0, nI a, nI s, -1, nI h, nI n, mA, mB, oX, oY, gY, wD, pC, nI c, tk, tv, cb, sk, sv, vk, vv, bp, br, bh, bn, bs, bl, px, py, pm, cr, sn, sx, sy, sm, sp, dg) (nI a) := by
  have hR' := hR
  obtain ⟨hT, hS, hV, hF, hPO, hG, hSV⟩ := hR
  have ht := hT.1
  have hh := hS.1
  have hmn := zg_mn hG hpc
  have hi : vp_in (nI a) 100 := vp_in_nI (by omega) (by omega)
  have e : (nI a).toNatClampNeg = a := zc_i (by omega)
  have ek : tk (nI a).toNatClampNeg = 1 := by rw [e]; exact hk
  have ev : tv (nI a).toNatClampNeg = nI 17 := by rw [e]; exact hv
  have hpn := po_next hPO ha (by rw [hk]; decide) (by rw [hk]; decide)
  obtain ⟨z1, z2, z3, z4⟩ := ze_0 hE
  have z1 : 2 ≤ h := z1
  have hn12 := hF.1
  obtain ⟨p, hp, ep, hp2⟩ := zproc hS (j := h - 1 - 0) (by omega) (z2 rfl 0 (by decide))
  have hxc : sv (h - 1 - 1) < 1 ↔ sv (h - 1 - 1) ≤ 0 := by rw [zt_lt, zt_le, z32_1, z32_0]; omega
  have kb : ∀ Q : Int32 → Prop, Q (if sv (h - 1 - 1) ≤ 0 then (0 : Int32) else 1) → wpY_begins Q (nI t, 0, nI h, nI n, nI a, 0, -1, nI (s + 1), nI c, 0, 0, 0, 0, tk, tv, dg, sk, sv, vk, vv, hw, fr, og, lf, st, la, fm, fc, gr, wi, mn, qx, qy, ss, cl, cp, nx, ny) (nI 17) := fun Q q => br_f (by decide) (br_f (by decide) (br_f (by decide) (br_f (by decide) (br_t rfl (y_top (j := 1) rfl rfl hh (by omega) ((zh Q _ _ _).mpr q))))))
  have Yct : ∀ PY : SY → Prop, (((if sv (h - 1 - 1) ≤ 0 then (0 : Int32) else 1) = 0 → PY (nI t, 0, nI (h - 2), nI n, nI a + 1, 0, -1, nI (s + 1), nI c, 0, 0, 0, 0, tk, tv, dg, sk, sv, vk, vv, hw, fr, og, lf, st, la, fm, fc, gr, wi, mn, qx, qy, ss, cl, cp, nx, ny)) ∧ (¬ (if sv (h - 1 - 1) ≤ 0 then (0 : Int32) else 1) = 0 → wpY_enter (fun u => match u with | (yt₁, yo₁, yh₁, yi₁, ya₁, ye₁, yp₁, ys₁, yc₁, nw₁, gn₁, bg₁, wd₁, tk₁, tv₁, dg₁, sk₁, sv₁, vk₁, vv₁, hw₁, fr₁, og₁, lf₁, st₁, la₁, fm₁, fc₁, gr₁, wi₁, mn₁, qx₁, qy₁, ss₁, cl₁, cp₁, nx₁, ny₁) => wY_control_289 PY (if sv (h - 1 - 1) ≤ 0 then (0 : Int32) else 1) yt₁ yo₁ yh₁ yi₁ ya₁ ye₁ yp₁ ys₁ yc₁ nw₁ gn₁ bg₁ wd₁ tk₁ tv₁ dg₁ sk₁ sv₁ vk₁ vv₁ hw₁ fr₁ og₁ lf₁ st₁ la₁ fm₁ fc₁ gr₁ wi₁ mn₁ qx₁ qy₁ ss₁ cl₁ cp₁ nx₁ ny₁) (nI t, 0, nI (h - 2), nI n, nI a, 0, -1, nI (s + 1), nI c, 0, 0, 0, 0, tk, tv, dg, sk, sv, vk, vv, hw, fr, og, lf, st, la, fm, fc, gr, wi, mn, qx, qy, ss, cl, cp, nx, ny) 1 (sv (h - 1 - 0)) (sv (h - 1 - 1)) 0 0)) → wpY_control PY (nI t, 0, nI h, nI n, nI a, 0, -1, nI (s + 1), nI c, 0, 0, 0, 0, tk, tv, dg, sk, sv, vk, vv, hw, fr, og, lf, st, la, fm, fc, gr, wi, mn, qx, qy, ss, cl, cp, nx, ny) (nI 17) := by
    intro PY k
    refine br_f (by decide) (y_top (j := 0) rfl rfl hh (by omega) ?_)
    unfold wY_control_15
    refine kb _ ?_
    exact br_f (by decide) (br_f (by decide) (br_f (by decide) (br_t rfl (y_top (j := 1) rfl rfl hh (by omega) (nm_r (pk_sub (b := 2) z1) (br_c (fun q => br_t q (nm_e (k.1 q))) (fun q => k.2 q)))))))
  refine nm_r (nI_1 s) (nm_r (nI_1 a) ⟨hi, br_t ek ⟨hi, nm_r ev (x_oe0 (by decide) hh hp48 rfl hpc hE (br_t rfl (br_t (by decide) (br_f (by decide) (br_f (by decide) (br_f (by decide) (br_f (by decide) ?_)))))))⟩⟩)
  unfold wpX_control
  refine x_operand (j := 0) rfl rfl hh (by omega) (x_operand (j := 1) rfl rfl hh (by omega) (x_operandA (j := 2) rfl rfl hh (by omega) (fun _ => br_f (by decide) (br_f (by decide) (br_f (by decide) (br_f (by decide) (br_f (by decide) (br_t rfl ?_))))))))
  by_cases q0 : sv (h - 1 - 1) ≤ 0
  · refine br_t (hxc.mpr q0) (nm_r (pk_sub (b := 2) z1) (H 0 _ (nI t, 0, nI (h - 2), nI n, nI a + 1, 0, -1, nI (s + 1), nI c, 0, 0, 0, 0, tk, tv, dg, sk, sv, vk, vv, hw, fr, og, lf, st, la, fm, fc, gr, wi, mn, qx, qy, ss, cl, cp, nx, ny) (zs_ok ⟨hT, zst_le hS (by omega), hV, hF, hpn, hG, hSV⟩ rfl (nI_1 a) rfl rfl rfl rfl rfl rfl) (fun PY hp' => ?_)))
    refine ⟨hi, nm_r ev ⟨hi, nm_r ek (br_f (by decide) (br_f (by decide) (br_f (by decide) (br_t rfl ?_))))⟩⟩
    unfold wY_execute_245 wpY_operate
    refine y_check (by decide) hh hp48 (zst_k hS) rfl hmn (fun z => absurd hE z) (fun _ z => absurd z (by decide)) (fun _ _ _ => y_ck87 rfl hh z1 hmn hp48 (by decide) (by decide) (by decide) (by decide) (by decide) (by decide) (by decide) (by decide) (by decide) (by decide) (by decide) (y_ck335b (b := (if sv (h - 1 - 1) ≤ 0 then (0 : Int32) else 1)) (n := n) rfl (by omega) kb (fun _ z => absurd (if_pos q0) z) (fun _ => br_t rfl ?_)))
    exact br_t (by decide) (br_f (by decide) (Yct _ (br_t (if_pos q0) hp')))
  · refine br_f (fun z => q0 (hxc.mp z)) ?_
    by_cases h12 : n = 12
    · refine x_beginF (congrArg nI h12) (H 9 _ (nI t, 0, nI h, nI n, nI a, 9, -1, nI (s + 1), nI c, 0, 0, 0, 0, tk, tv, dg, sk, sv, vk, vv, hw, fr, og, lf, st, la, fm, fc, gr, wi, mn, qx, qy, ss, cl, cp, nx, ny) (zs_er hR' (by decide)) (fun PY hp' => ?_))
      refine ⟨hi, nm_r ev ⟨hi, nm_r ek (br_f (by decide) (br_f (by decide) (br_f (by decide) (br_t rfl ?_))))⟩⟩
      unfold wY_execute_245 wpY_operate
      refine y_check (by decide) hh hp48 (zst_k hS) rfl hmn (fun z => absurd hE z) (fun _ z => absurd z (by decide)) (fun _ _ _ => y_ck87 rfl hh z1 hmn hp48 (by decide) (by decide) (by decide) (by decide) (by decide) (by decide) (by decide) (by decide) (by decide) (by decide) (by decide) (y_ck335b (b := (if sv (h - 1 - 1) ≤ 0 then (0 : Int32) else 1)) (n := n) rfl (by omega) kb (fun _ _ => br_f (by decide) hp') (fun z => absurd ⟨h12, by rw [if_neg q0]; decide⟩ z)))
    · refine x_begin rfl (by omega) ep (pk_sub (b := 2) z1) (by decide) (H 0 _ (nI t, 0, nI (h - 2), nI (n + 1), nI (p + 1), 0, -1, nI (s + 1), nI c, 0, 0, 0, 0, tk, tv, dg, sk, sv, vk, vv, upd hw n 1, upd fr n (nI (p + 1)), upd og n (nI a), upd lf n (sv (h - 1 - 1)), upd st n 0, upd la n 0, fm, fc, gr, wi, mn, qx, qy, ss, cl, cp, nx, ny) (zs_ok ⟨hT, zst_le hS (by omega), hV, zfr_push hF (by omega) hp hp2 hpn (fun q => absurd q (by decide)) (fun _ => ⟨rfl, rfl, rfl⟩), po_in hT hp hp2, hG, hSV⟩ rfl rfl rfl rfl rfl rfl rfl rfl) (fun PY hp' => ?_))
      refine ⟨hi, nm_r ev ⟨hi, nm_r ek (br_f (by decide) (br_f (by decide) (br_f (by decide) (br_t rfl ?_))))⟩⟩
      unfold wY_execute_245 wpY_operate
      refine y_check (by decide) hh hp48 (zst_k hS) rfl hmn (fun z => absurd hE z) (fun _ z => absurd z (by decide)) (fun _ _ _ => y_ck87 rfl hh z1 hmn hp48 (by decide) (by decide) (by decide) (by decide) (by decide) (by decide) (by decide) (by decide) (by decide) (by decide) (by decide) (y_ck335b (b := (if sv (h - 1 - 1) ≤ 0 then (0 : Int32) else 1)) (n := n) rfl (by omega) kb (fun z _ => absurd z h12) (fun _ => br_t rfl ?_)))
      refine br_t (by decide) (br_f (by decide) (Yct _ (br_f (by rw [if_neg q0]; decide) ?_)))
      exact y_enter rfl (by omega) ep (br_f (by rw [if_neg q0]; decide) hp')
theorem st_for {t h n a c s pc : Nat} {PX : Int32 → SX → Prop} (hR : ZR t h n a c mA mB oX oY gY wD pC tk tv cb sk sv vk vv bp br bh bn bs bl px py pm cr sn sx sy sm sp hw fr og lf st la fm fc gr wi mn qx qy ss cl cp) (ha : a < t) (hk : tk a = 1) (hv : tv a = nI 18) (hpc : pC = nI pc) (hp48 : pc ≤ 48) (hE : ZE1 18 h sk pc = 0)
    (H : ∀ (e : Int32) (u' : SX) (v' : SY), ZStep a (s + 1) e u' v' → (∀ PY : SY → Prop, PY v' → wpY_execute PY (nI t, 0, nI h, nI n, nI a, 0, -1, nI (s + 1), nI c, nw, gn, bg, wd, tk, tv, dg, sk, sv, vk, vv, hw, fr, og, lf, st, la, fm, fc, gr, wi, mn, qx, qy, ss, cl, cp, nx, ny)) → PX e u') : wpX_execute PX (nI t, 0, nI a, nI s, -1, nI h, nI n, mA, mB, oX, oY, gY, wD, pC, nI c, tk, tv, cb, sk, sv, vk, vv, bp, br, bh, bn, bs, bl, px, py, pm, cr, sn, sx, sy, sm, sp, dg) (nI a) := by
  have hR' := hR
  obtain ⟨hT, hS, hV, hF, hPO, hG, hSV⟩ := hR
  have ht := hT.1
  have hh := hS.1
  have hmn := zg_mn hG hpc
  have hi : vp_in (nI a) 100 := vp_in_nI (by omega) (by omega)
  have e : (nI a).toNatClampNeg = a := zc_i (by omega)
  have ek : tk (nI a).toNatClampNeg = 1 := by rw [e]; exact hk
  have ev : tv (nI a).toNatClampNeg = nI 18 := by rw [e]; exact hv
  have hpn := po_next hPO ha (by rw [hk]; decide) (by rw [hk]; decide)
  obtain ⟨z1, z2, z3, z4⟩ := ze_0 hE
  have z1 : 4 ≤ h := z1
  have hn12 := hF.1
  obtain ⟨p, hp, ep, hp2⟩ := zproc hS (j := h - 1 - 0) (by omega) (z2 rfl 0 (by decide))
  have Yck : ∀ Q : Int32 → SY → Prop, (sv (h - 1 - 2) = 0 → Q 12 (nI t, 0, nI h, nI n, nI a, 0, -1, nI (s + 1), nI c, 0, 0, 0, 0, tk, tv, dg, sk, sv, vk, vv, hw, fr, og, lf, st, la, fm, fc, gr, wi, mn, qx, qy, ss, cl, cp, nx, ny)) → (sv (h - 1 - 2) ≠ 0 → wY_check_335 Q (nI 18) (nI t) 0 (nI h) (nI n) (nI a) 0 (-1) (nI (s + 1)) (nI c) 0 0 0 0 tk tv dg sk sv vk vv hw fr og lf st la fm fc gr wi mn qx qy ss cl cp nx ny) → wY_check_87 Q (nI 18) (nI (ztk 18)) (nI t) 0 (nI h) (nI n) (nI a) 0 (-1) (nI (s + 1)) (nI c) nw gn bg wd tk tv dg sk sv vk vv hw fr og lf st la fm fc gr wi mn qx qy ss cl cp nx ny := by
    intro Q k12 k
    refine y_plan0 (by decide) (by decide) (by decide) (br_f (by decide) (br_f (by decide) (br_f ?_ (br_f (by decide) (br_f (by decide) (y_top (j := 0) rfl rfl hh (by omega) (br_f (by decide) (br_f (by decide) (br_f (by decide) (br_f (by decide) (br_t rfl (y_top (j := 2) rfl rfl hh (by omega) (br_c (fun q => k12 q) (fun q => br_f (by decide) (br_t rfl (br_f (by decide) (k q)))))))))))))))))
    rw [hmn]
    show ¬ nI 48 < nI pc - nI 0 + nI 0
    rw [pk_sub (by omega), nI_add]
    exact nI_nlt (by omega) (by omega)
  have kb : ∀ Q : Int32 → Prop, Q (if zry (sv (h - 1 - 3)) (sv (h - 1 - 2)) (sv (h - 1 - 1)) = 0 then (0 : Int32) else 1) → wpY_begins Q (nI t, 0, nI h, nI n, nI a, 0, -1, nI (s + 1), nI c, 0, 0, 0, 0, tk, tv, dg, sk, sv, vk, vv, hw, fr, og, lf, st, la, fm, fc, gr, wi, mn, qx, qy, ss, cl, cp, nx, ny) (nI 18) := fun Q q => br_f (by decide) (br_f (by decide) (br_f (by decide) (br_f (by decide) (br_f (by decide) (br_t rfl (y_top (j := 3) rfl rfl hh (by omega) (y_top (j := 2) rfl rfl hh (by omega) (y_top (j := 1) rfl rfl hh (by omega) (y_reaches ((zh Q _ _ _).mpr q)))))))))) 
  have Yct : ∀ PY : SY → Prop, (((if zry (sv (h - 1 - 3)) (sv (h - 1 - 2)) (sv (h - 1 - 1)) = 0 then (0 : Int32) else 1) = 0 → PY (nI t, 0, nI (h - 4), nI n, nI a + 1, 0, -1, nI (s + 1), nI c, 0, 0, 0, 0, tk, tv, dg, sk, sv, vk, vv, hw, fr, og, lf, st, la, fm, fc, gr, wi, mn, qx, qy, ss, cl, cp, nx, ny)) ∧ (¬ (if zry (sv (h - 1 - 3)) (sv (h - 1 - 2)) (sv (h - 1 - 1)) = 0 then (0 : Int32) else 1) = 0 → wpY_put (fun u => match u with | (yt₁, yo₁, yh₁, yi₁, ya₁, ye₁, yp₁, ys₁, yc₁, nw₁, gn₁, bg₁, wd₁, tk₁, tv₁, dg₁, sk₁, sv₁, vk₁, vv₁, hw₁, fr₁, og₁, lf₁, st₁, la₁, fm₁, fc₁, gr₁, wi₁, mn₁, qx₁, qy₁, ss₁, cl₁, cp₁, nx₁, ny₁) => wpY_enter (fun u => match u with | (yt₁, yo₁, yh₁, yi₁, ya₁, ye₁, yp₁, ys₁, yc₁, nw₁, gn₁, bg₁, wd₁, tk₁, tv₁, dg₁, sk₁, sv₁, vk₁, vv₁, hw₁, fr₁, og₁, lf₁, st₁, la₁, fm₁, fc₁, gr₁, wi₁, mn₁, qx₁, qy₁, ss₁, cl₁, cp₁, nx₁, ny₁) => wY_control_234 PY (if zry (sv (h - 1 - 3)) (sv (h - 1 - 2)) (sv (h - 1 - 1)) = 0 then (0 : Int32) else 1) yt₁ yo₁ yh₁ yi₁ ya₁ ye₁ yp₁ ys₁ yc₁ nw₁ gn₁ bg₁ wd₁ tk₁ tv₁ dg₁ sk₁ sv₁ vk₁ vv₁ hw₁ fr₁ og₁ lf₁ st₁ la₁ fm₁ fc₁ gr₁ wi₁ mn₁ qx₁ qy₁ ss₁ cl₁ cp₁ nx₁ ny₁) (yt₁, yo₁, yh₁, yi₁, ya₁, ye₁, yp₁, ys₁, yc₁, nw₁, gn₁, bg₁, wd₁, tk₁, tv₁, dg₁, sk₁, sv₁, vk₁, vv₁, hw₁, fr₁, og₁, lf₁, st₁, la₁, fm₁, fc₁, gr₁, wi₁, mn₁, qx₁, qy₁, ss₁, cl₁, cp₁, nx₁, ny₁) 2 (sv (h - 1 - 0)) (sv (h - 1 - 3)) (sv (h - 1 - 2)) (sv (h - 1 - 1))) (nI t, 0, nI (h - 4), nI n, nI a, 0, -1, nI (s + 1), nI c, 0, 0, 0, 0, tk, tv, dg, sk, sv, vk, vv, hw, fr, og, lf, st, la, fm, fc, gr, wi, mn, qx, qy, ss, cl, cp, nx, ny) 0 (sv (h - 1 - 3)))) → wpY_control PY (nI t, 0, nI h, nI n, nI a, 0, -1, nI (s + 1), nI c, 0, 0, 0, 0, tk, tv, dg, sk, sv, vk, vv, hw, fr, og, lf, st, la, fm, fc, gr, wi, mn, qx, qy, ss, cl, cp, nx, ny) (nI 18) := by
    intro PY k
    refine br_f (by decide) (y_top (j := 0) rfl rfl hh (by omega) ?_)
    unfold wY_control_15
    refine kb _ ?_
    exact br_f (by decide) (br_f (by decide) (br_f (by decide) (br_f (by decide) (br_t rfl (y_top (j := 1) rfl rfl hh (by omega) (y_top (j := 2) rfl rfl hh (by omega) (y_top (j := 3) rfl rfl hh (by omega) (nm_r (pk_sub (b := 4) z1) (br_c (fun q => br_t q (nm_e (k.1 q))) (fun q => k.2 q))))))))))
  refine nm_r (nI_1 s) (nm_r (nI_1 a) ⟨hi, br_t ek ⟨hi, nm_r ev (x_oe0 (by decide) hh hp48 rfl hpc hE (br_t rfl (br_t (by decide) (br_f (by decide) (br_f (by decide) (br_f (by decide) (br_f (by decide) ?_)))))))⟩⟩)
  unfold wpX_control
  refine x_operand (j := 0) rfl rfl hh (by omega) (x_operand (j := 1) rfl rfl hh (by omega) (x_operand (j := 2) rfl rfl hh (by omega) (br_f (by decide) (br_f (by decide) (br_f (by decide) (br_f (by decide) (br_f (by decide) (br_f (by decide) (br_t rfl ?_)))))))))
  unfold wpX_beginFor
  refine x_operand (j := 3) rfl rfl hh (by omega) (x_operand (j := 2) rfl rfl hh (by omega) (x_operand (j := 1) rfl rfl hh (by omega) (x_operand (j := 0) rfl rfl hh (by omega) ?_)))
  by_cases hs0 : sv (h - 1 - 2) = 0
  · refine br_t hs0 (H 12 _ (nI t, 0, nI h, nI n, nI a, 12, -1, nI (s + 1), nI c, 0, 0, 0, 0, tk, tv, dg, sk, sv, vk, vv, hw, fr, og, lf, st, la, fm, fc, gr, wi, mn, qx, qy, ss, cl, cp, nx, ny) (zs_er hR' (by decide)) (fun PY hp' => ?_))
    refine ⟨hi, nm_r ev ⟨hi, nm_r ek (br_f (by decide) (br_f (by decide) (br_f (by decide) (br_t rfl ?_))))⟩⟩
    unfold wY_execute_245 wpY_operate
    refine y_check (by decide) hh hp48 (zst_k hS) rfl hmn (fun z => absurd hE z) (fun _ z => absurd z (by decide)) (fun _ _ _ => Yck _ (fun _ => br_f (by decide) hp') (fun z => absurd hs0 z))
  · refine br_f hs0 (x_isReached ?_)
    rw [zre_i]
    by_cases q0 : zry (sv (h - 1 - 3)) (sv (h - 1 - 2)) (sv (h - 1 - 1)) = 0
    · refine br_t q0 (nm_r (pk_sub (b := 4) z1) (H 0 _ (nI t, 0, nI (h - 4), nI n, nI a + 1, 0, -1, nI (s + 1), nI c, 0, 0, 0, 0, tk, tv, dg, sk, sv, vk, vv, hw, fr, og, lf, st, la, fm, fc, gr, wi, mn, qx, qy, ss, cl, cp, nx, ny) (zs_ok ⟨hT, zst_le hS (by omega), hV, hF, hpn, hG, hSV⟩ rfl (nI_1 a) rfl rfl rfl rfl rfl rfl) (fun PY hp' => ?_)))
      refine ⟨hi, nm_r ev ⟨hi, nm_r ek (br_f (by decide) (br_f (by decide) (br_f (by decide) (br_t rfl ?_))))⟩⟩
      unfold wY_execute_245 wpY_operate
      refine y_check (by decide) hh hp48 (zst_k hS) rfl hmn (fun z => absurd hE z) (fun _ z => absurd z (by decide)) (fun _ _ _ => Yck _ (fun z => absurd z hs0) (fun _ => y_ck335b (b := (if zry (sv (h - 1 - 3)) (sv (h - 1 - 2)) (sv (h - 1 - 1)) = 0 then (0 : Int32) else 1)) (n := n) rfl (by omega) kb (fun _ z => absurd (if_pos q0) z) (fun _ => br_t rfl ?_)))
      exact br_t (by decide) (br_f (by decide) (Yct _ (br_t (if_pos q0) hp')))
    · refine br_f q0 ?_
      by_cases h12 : n = 12
      · refine x_beginF (congrArg nI h12) (H 9 _ (nI t, 0, nI h, nI n, nI a, 9, -1, nI (s + 1), nI c, 0, 0, 0, 0, tk, tv, dg, sk, sv, vk, vv, hw, fr, og, lf, st, la, fm, fc, gr, wi, mn, qx, qy, ss, cl, cp, nx, ny) (zs_er hR' (by decide)) (fun PY hp' => ?_))
        refine ⟨hi, nm_r ev ⟨hi, nm_r ek (br_f (by decide) (br_f (by decide) (br_f (by decide) (br_t rfl ?_))))⟩⟩
        unfold wY_execute_245 wpY_operate
        refine y_check (by decide) hh hp48 (zst_k hS) rfl hmn (fun z => absurd hE z) (fun _ z => absurd z (by decide)) (fun _ _ _ => Yck _ (fun z => absurd z hs0) (fun _ => y_ck335b (b := (if zry (sv (h - 1 - 3)) (sv (h - 1 - 2)) (sv (h - 1 - 1)) = 0 then (0 : Int32) else 1)) (n := n) rfl (by omega) kb (fun _ _ => br_f (by decide) hp') (fun z => absurd ⟨h12, by rw [if_neg q0]; decide⟩ z)))
      · refine x_begin2 rfl (by omega) ep (pk_sub (b := 4) z1) (by omega) (H 0 _ (nI t, 0, nI (h - 4 + 1), nI (n + 1), nI (p + 1), 0, -1, nI (s + 1), nI c, 0, 0, 0, 0, tk, tv, dg, upd sk (h - 4) 0, upd sv (h - 4) (sv (h - 1 - 3)), vk, vv, upd hw n 2, upd fr n (nI (p + 1)), upd og n (nI a), upd lf n (sv (h - 1 - 3)), upd st n (sv (h - 1 - 2)), upd la n (sv (h - 1 - 1)), fm, fc, gr, wi, mn, qx, qy, ss, cl, cp, nx, ny) (zs_ok ⟨hT, zst_put (zst_le hS (by omega)) (by omega) zv_0, hV, zfr_push hF (by omega) hp hp2 hpn (fun _ => ⟨rfl, rfl, rfl⟩) (fun q => absurd q (by decide)), po_in hT hp hp2, hG, hSV⟩ rfl rfl rfl rfl rfl rfl rfl rfl) (fun PY hp' => ?_))
        refine ⟨hi, nm_r ev ⟨hi, nm_r ek (br_f (by decide) (br_f (by decide) (br_f (by decide) (br_t rfl ?_))))⟩⟩
        unfold wY_execute_245 wpY_operate
        refine y_check (by decide) hh hp48 (zst_k hS) rfl hmn (fun z => absurd hE z) (fun _ z => absurd z (by decide)) (fun _ _ _ => Yck _ (fun z => absurd z hs0) (fun _ => y_ck335b (b := (if zry (sv (h - 1 - 3)) (sv (h - 1 - 2)) (sv (h - 1 - 1)) = 0 then (0 : Int32) else 1)) (n := n) rfl (by omega) kb (fun z _ => absurd z h12) (fun _ => br_t rfl ?_)))
        refine br_t (by decide) (br_f (by decide) (Yct _ (br_f (by rw [if_neg q0]; decide) ?_)))
        exact y_put rfl (by omega) (y_enter rfl (by omega) ep (br_f (by rw [if_neg q0]; decide) hp'))
theorem st_exit {t h n a c s pc : Nat} {PX : Int32 → SX → Prop} (hR : ZR t h n a c mA mB oX oY gY wD pC tk tv cb sk sv vk vv bp br bh bn bs bl px py pm cr sn sx sy sm sp hw fr og lf st la fm fc gr wi mn qx qy ss cl cp) (ha : a < t) (hk : tk a = 1) (hv : tv a = nI 20) (hpc : pC = nI pc) (hp48 : pc ≤ 48) (hE : ZE1 20 h sk pc = 0)
    (H : ∀ (e : Int32) (u' : SX) (v' : SY), ZStep a (s + 1) e u' v' → (∀ PY : SY → Prop, PY v' → wpY_execute PY (nI t, 0, nI h, nI n, nI a, 0, -1, nI (s + 1), nI c, nw, gn, bg, wd, tk, tv, dg, sk, sv, vk, vv, hw, fr, og, lf, st, la, fm, fc, gr, wi, mn, qx, qy, ss, cl, cp, nx, ny)) → PX e u') : wpX_execute PX (nI t, 0, nI a, nI s, -1, nI h, nI n, mA, mB, oX, oY, gY, wD, pC, nI c, tk, tv, cb, sk, sv, vk, vv, bp, br, bh, bn, bs, bl, px, py, pm, cr, sn, sx, sy, sm, sp, dg) (nI a) := by
  have hR' := hR
  obtain ⟨hT, hS, hV, hF, hPO, hG, hSV⟩ := hR
  have ht := hT.1
  have hh := hS.1
  have hmn := zg_mn hG hpc
  have hi : vp_in (nI a) 100 := vp_in_nI (by omega) (by omega)
  have e : (nI a).toNatClampNeg = a := zc_i (by omega)
  have ek : tk (nI a).toNatClampNeg = 1 := by rw [e]; exact hk
  have ev : tv (nI a).toNatClampNeg = nI 20 := by rw [e]; exact hv
  have hpn := po_next hPO ha (by rw [hk]; decide) (by rw [hk]; decide)
  obtain ⟨z1, z2, z3, z4⟩ := ze_0 hE
  have z1 : 0 ≤ h := z1
  have hn12 := hF.1
  have Yck : ∀ Q : Int32 → SY → Prop, wpY_loopInside (fun r => (0 ≤ r → wY_check_335 Q (nI 20) (nI t) 0 (nI h) (nI n) (nI a) 0 (-1) (nI (s + 1)) (nI c) 0 0 0 0 tk tv dg sk sv vk vv hw fr og lf st la fm fc gr wi mn qx qy ss cl cp nx ny) ∧ (¬ 0 ≤ r → Q 8 (nI t, 0, nI h, nI n, nI a, 0, -1, nI (s + 1), nI c, 0, 0, 0, 0, tk, tv, dg, sk, sv, vk, vv, hw, fr, og, lf, st, la, fm, fc, gr, wi, mn, qx, qy, ss, cl, cp, nx, ny))) (nI t, 0, nI h, nI n, nI a, 0, -1, nI (s + 1), nI c, 0, 0, 0, 0, tk, tv, dg, sk, sv, vk, vv, hw, fr, og, lf, st, la, fm, fc, gr, wi, mn, qx, qy, ss, cl, cp, nx, ny) → wY_check_87 Q (nI 20) (nI (ztk 20)) (nI t) 0 (nI h) (nI n) (nI a) 0 (-1) (nI (s + 1)) (nI c) nw gn bg wd tk tv dg sk sv vk vv hw fr og lf st la fm fc gr wi mn qx qy ss cl cp nx ny := by
    intro Q k
    refine y_plan0 (by decide) (by decide) (by decide) (br_f (by decide) (br_f (by decide) (br_f ?_ (br_f (by decide) (br_t (by decide) (br_f (by decide) (br_f (by decide) (br_f (by decide) (br_f (by decide) (br_f (by decide) (br_f (by decide) (br_t rfl (br_t rfl k)))))))))))))
    rw [hmn]
    show ¬ nI 48 < nI pc - nI 0 + nI 0
    rw [pk_sub (by omega), nI_add]
    exact nI_nlt (by omega) (by omega)
  have ehw : ∀ j, j < n → hw j = bh j := fun j hj => (hF.2 j hj).2.1
  refine nm_r (nI_1 s) (nm_r (nI_1 a) ⟨hi, br_t ek ⟨hi, nm_r ev (x_oe0 (by decide) hh hp48 rfl hpc hE (br_t rfl (br_t (by decide) (br_f (by decide) (br_f (by decide) (br_f (by decide) (br_f (by decide) ?_)))))))⟩⟩)
  unfold wpX_control
  refine x_operandA (j := 0) rfl rfl hh (by omega) (fun _ => x_operandA (j := 1) rfl rfl hh (by omega) (fun _ => x_operandA (j := 2) rfl rfl hh (by omega) (fun _ => br_f (by decide) (br_t (by decide) ?_))))
  unfold wpX_leaveLoop
  rcases zlast bh n with hz | ⟨m, hm, hmz, hz⟩
  · refine nm_e ⟨n + 1, x_ll_none (H 8 _ (nI t, 0, nI h, nI n, nI a, 8, -1, nI (s + 1), nI c, 0, 0, 0, 0, tk, tv, dg, sk, sv, vk, vv, hw, fr, og, lf, st, la, fm, fc, gr, wi, mn, qx, qy, ss, cl, cp, nx, ny) (zs_er hR' (by decide)) (fun PY hp' => ?_)) n hn12 hz⟩
    refine ⟨hi, nm_r ev ⟨hi, nm_r ek (br_f (by decide) (br_f (by decide) (br_f (by decide) (br_t rfl ?_))))⟩⟩
    unfold wY_execute_245 wpY_operate
    refine y_check (by decide) hh hp48 (zst_k hS) rfl hmn (fun z => absurd hE z) (fun _ z => absurd z (by decide)) (fun _ _ _ => Yck _ (nm_e ⟨n + 1, y_ll_none ?_ n hn12 (fun j hj => by rw [ehw j hj]; exact hz j hj)⟩))
    exact br_f (by decide) (br_f (by decide) hp')
  · obtain ⟨⟨p, o, hp, hp2, e_bp, e_fr, e_br, e_og, hpo⟩, _⟩ := hF.2 m hm
    obtain ⟨d, rfl⟩ : ∃ d, n = m + d + 1 := ⟨n - m - 1, by omega⟩
    have hwz : ∀ j, m < j → j ≤ m + d → hw j = 0 := fun j h1 h2 => by rw [ehw j (by omega)]; exact hz j h1 (by omega)
    have hwm : hw m ≠ 0 := by rw [ehw m hm]; exact hmz
    refine nm_r (nI_pred (m + d)) ⟨d + 1, x_ll_some hmz (H 0 _ (nI t, 0, nI h, nI m, nI (o + 1), 0, -1, nI (s + 1), nI c, 0, 0, 0, 0, tk, tv, dg, sk, sv, vk, vv, hw, fr, og, lf, st, la, fm, fc, gr, wi, mn, qx, qy, ss, cl, cp, nx, ny) (zs_ok ⟨hT, hS, hV, zfr_le hF (by omega), hpo, hG, hSV⟩ e_br rfl rfl rfl rfl rfl rfl rfl) (fun PY hp' => ?_)) d (by omega) (fun j h1 h2 => hz j h1 (by omega))⟩
    refine ⟨hi, nm_r ev ⟨hi, nm_r ek (br_f (by decide) (br_f (by decide) (br_f (by decide) (br_t rfl ?_))))⟩⟩
    unfold wY_execute_245 wpY_operate
    refine y_check (by decide) hh hp48 (zst_k hS) rfl hmn (fun z => absurd hE z) (fun _ z => absurd z (by decide)) (fun _ _ _ => Yck _ (nm_r (nI_pred (m + d)) ⟨d + 1, y_ll_some hwm ?_ d (by omega) hwz⟩))
    refine ql_t 0 m (by omega) (y_ck335n (by decide) (by decide) (by decide) (by decide) (by decide) (by decide) (br_t rfl (br_t (by decide) (br_f (by decide) (br_t rfl ?_)))))
    unfold wY_control_15
    have kb : ∀ Q : Int32 → Prop, Q 0 → wpY_begins Q (nI t, 0, nI h, nI (m + d + 1), nI a, 0, -1, nI (s + 1), nI c, 0, 0, 0, 0, tk, tv, dg, sk, sv, vk, vv, hw, fr, og, lf, st, la, fm, fc, gr, wi, mn, qx, qy, ss, cl, cp, nx, ny) (nI 20) := fun Q q => br_f (by decide) (br_f (by decide) (br_f (by decide) (br_f (by decide) (br_f (by decide) (br_f (by decide) q)))))
    refine kb _ (br_f (by decide) (br_f (by decide) (br_f (by decide) (br_f (by decide) (br_f (by decide) (br_f (by decide) (nm_r (nI_pred (m + d)) ⟨d + 1, y_ll_some hwm ⟨vp_in_nI (by omega) (by omega), nm_r (show og (nI m).toNatClampNeg + 1 = nI (o + 1) by rw [zc_i (by omega), e_og, nI_1]) hp'⟩ d (by omega) hwz⟩)))))))
end
