section
variable {tc ob ps su ep sd bc mA mB oX oY gY wD pC sC yt yo yh yi ya ye yp ys yc nw gn bg wd : Int32} {tk tv cb sk sv vk vv bp br bh bn bs bl px py pm cr sn sx sy sm sp dg hw fr og lf st la fm fc gr wi mn qx qy ss cl cp nx ny : Nat → Int32}
theorem zm_7 (c : Nat) : nI c * 7 = nI (7 * c) := by
  show nI c * nI 7 = _
  rw [pk_mul, Nat.mul_comm]
theorem zm_7a {c i : Nat} (hc : c < 5) (hi : i < 7) {x : Int32} (hx : x = nI i) : (nI (7 * c) + x).toNatClampNeg = 7 * c + i := by
  rw [hx, nI_add]
  exact zc_i (by omega)
theorem zm_48 (c k : Nat) : nI c * 48 + nI k = nI (48 * c + k) := by
  show nI c * nI 48 + nI k = _
  rw [pk_mul, nI_add, Nat.mul_comm]
theorem zm_24 (c k : Nat) : nI c * 24 + nI k = nI (24 * c + k) := by
  show nI c * nI 24 + nI k = _
  rw [pk_mul, nI_add, Nat.mul_comm]
theorem zm_in {c i N : Nat} {x : Int32} (hx : x = nI i) (h : 7 * c + i < N) (hN : N < 1000) : vp_in (nI (7 * c) + x) N := by
  rw [hx, nI_add]
  exact vp_in_nI h (by omega)
theorem x_save2 {post : Int32 → SX → Prop} {c : Nat} (hc : c < 4) : ∀ (d k : Nat) (sp : Nat → Int32), k + d = 24 → post 0 (tc, ob, ps, su, ep, sd, bc, mA, mB, oX, oY, gY, wD, pC, nI (c + 1), tk, tv, cb, sk, sv, vk, vv, bp, br, bh, bn, bs, bl, px, py, pm, cr, sn, sx, sy, sm, zf sp (24 * c + k) (24 * c + 24) (fun i => cr (i - 24 * c)), dg) → wX_saveState_164 post tc ob ps su ep sd bc mA mB oX oY gY wD pC (nI c) (d + 1) (nI k) tk tv cb sk sv vk vv bp br bh bn bs bl px py pm cr sn sx sy sm sp dg := by
  intro d
  induction d with
  | zero =>
    intro k sp hk kk
    have : k = 24 := by omega
    subst this
    rw [zf_z] at kk
    exact ql_t 24 24 (by omega) (nm_r (nI_1 c) kk)
  | succ d ih =>
    intro k sp hk kk
    have e : (nI k).toNatClampNeg = k := zc_i (by omega)
    have e2 : (nI c * 24 + nI k).toNatClampNeg = 24 * c + k := by rw [zm_24]; exact zc_i (by omega)
    refine ql_f 24 k (by omega) ⟨vp_in_nI (by omega) (by omega), by rw [zm_24]; exact vp_in_nI (by omega) (by omega), nm_r (show _ = upd sp (24 * c + k) (cr k) by rw [e, e2]) (nm_r (nI_1 k) (ih (k + 1) _ (by omega) ?_))⟩
    have := zf_s (a := sp) (j := 24 * c + k) (e := 24 * c + 24) (g := fun i => cr (i - 24 * c)) (by omega)
    rw [show 24 * c + k - 24 * c = k by omega] at this
    rw [show 24 * c + (k + 1) = 24 * c + k + 1 by omega, this]
    exact kk
theorem x_save1 {post : Int32 → SX → Prop} {c : Nat} (hc : c < 4) : ∀ (d k : Nat) (sx sy sm : Nat → Int32), k + d = 48 → post 0 (tc, ob, ps, su, ep, sd, bc, mA, mB, oX, oY, gY, wD, pC, nI (c + 1), tk, tv, cb, sk, sv, vk, vv, bp, br, bh, bn, bs, bl, px, py, pm, cr, sn, zf sx (48 * c + k) (48 * c + 48) (fun i => px (i - 48 * c)), zf sy (48 * c + k) (48 * c + 48) (fun i => py (i - 48 * c)), zf sm (48 * c + k) (48 * c + 48) (fun i => pm (i - 48 * c)), zf sp (24 * c) (24 * c + 24) (fun i => cr (i - 24 * c)), dg) → wX_saveState_104 post tc ob ps su ep sd bc mA mB oX oY gY wD pC (nI c) (d + 1) (nI k) tk tv cb sk sv vk vv bp br bh bn bs bl px py pm cr sn sx sy sm sp dg := by
  intro d
  induction d with
  | zero =>
    intro k sx sy sm hk kk
    have : k = 48 := by omega
    subst this
    rw [zf_z, zf_z, zf_z] at kk
    exact ql_t 48 48 (by omega) ⟨25, x_save2 hc 24 0 sp rfl kk⟩
  | succ d ih =>
    intro k sx sy sm hk kk
    have e : (nI k).toNatClampNeg = k := zc_i (by omega)
    have e2 : (nI (48 * c + k)).toNatClampNeg = 48 * c + k := zc_i (by omega)
    have i1 : vp_in (nI k) 48 := vp_in_nI (by omega) (by omega)
    have i2 : vp_in (nI (48 * c + k)) 192 := vp_in_nI (by omega) (by omega)
    refine ql_f 48 k (by omega) (nm_r (zm_48 c k) ⟨i1, i2, nm_r (show _ = upd sx (48 * c + k) (px k) by rw [e, e2]) ⟨i1, i2, nm_r (show _ = upd sy (48 * c + k) (py k) by rw [e, e2]) ⟨i1, i2, nm_r (show _ = upd sm (48 * c + k) (pm k) by rw [e, e2]) (nm_r (nI_1 k) (ih (k + 1) _ _ _ (by omega) ?_))⟩⟩⟩)
    have st : ∀ f g : Nat → Int32, zf (upd f (48 * c + k) (g k)) (48 * c + (k + 1)) (48 * c + 48) (fun i => g (i - 48 * c)) = zf f (48 * c + k) (48 * c + 48) (fun i => g (i - 48 * c)) := by
      intro f g
      have := zf_s (a := f) (j := 48 * c + k) (e := 48 * c + 48) (g := fun i => g (i - 48 * c)) (by omega)
      rw [show 48 * c + k - 48 * c = k by omega] at this
      exact this
    rw [st, st, st]
    exact kk
theorem x_save {post : Int32 → SX → Prop} {c : Nat} (hc : c < 4) (hs : sC = nI c) (k : post 0 (tc, ob, ps, su, ep, sd, bc, mA, mB, oX, oY, gY, wD, pC, nI (c + 1), tk, tv, cb, sk, sv, vk, vv, bp, br, bh, bn, bs, bl, px, py, pm, cr, upd (upd (upd (upd (upd (upd (upd sn (7 * c) mA) (7 * c + 1) mB) (7 * c + 2) oX) (7 * c + 3) oY) (7 * c + 4) gY) (7 * c + 5) wD) (7 * c + 6) pC, zf sx (48 * c) (48 * c + 48) (fun i => px (i - 48 * c)), zf sy (48 * c) (48 * c + 48) (fun i => py (i - 48 * c)), zf sm (48 * c) (48 * c + 48) (fun i => pm (i - 48 * c)), zf sp (24 * c) (24 * c + 24) (fun i => cr (i - 24 * c)), dg)) : wpX_saveState post (tc, ob, ps, su, ep, sd, bc, mA, mB, oX, oY, gY, wD, pC, sC, tk, tv, cb, sk, sv, vk, vv, bp, br, bh, bn, bs, bl, px, py, pm, cr, sn, sx, sy, sm, sp, dg) := by
  subst hs
  unfold wpX_saveState
  have e0 : (nI (7 * c)).toNatClampNeg = 7 * c := zc_i (by omega)
  refine qs_t c 4 hc (nm_r (zm_7 c) ⟨vp_in_nI (by omega) (by omega), nm_r (congrArg (fun q => upd sn q mA) e0) ⟨zm_in (i := 1) rfl (by omega) (by omega), nm_r (congrArg (fun q => upd _ q mB) (zm_7a (i := 1) (by omega) (by omega) rfl)) ⟨zm_in (i := 2) rfl (by omega) (by omega), nm_r (congrArg (fun q => upd _ q oX) (zm_7a (i := 2) (by omega) (by omega) rfl)) ⟨zm_in (i := 3) rfl (by omega) (by omega), nm_r (congrArg (fun q => upd _ q oY) (zm_7a (i := 3) (by omega) (by omega) rfl)) ⟨zm_in (i := 4) rfl (by omega) (by omega), nm_r (congrArg (fun q => upd _ q gY) (zm_7a (i := 4) (by omega) (by omega) rfl)) ⟨zm_in (i := 5) rfl (by omega) (by omega), nm_r (congrArg (fun q => upd _ q wD) (zm_7a (i := 5) (by omega) (by omega) rfl)) ⟨zm_in (i := 6) rfl (by omega) (by omega), nm_r (congrArg (fun q => upd _ q pC) (zm_7a (i := 6) (by omega) (by omega) rfl)) ⟨49, x_save1 hc 48 0 sx sy sm rfl k⟩⟩⟩⟩⟩⟩⟩⟩)
theorem x_rest2 {post : SX → Prop} {c : Nat} (hc : c < 4) : ∀ (d k : Nat) (cr : Nat → Int32), k + d = 24 → post (tc, ob, ps, su, ep, sd, bc, mA, mB, oX, oY, gY, wD, pC, nI c, tk, tv, cb, sk, sv, vk, vv, bp, br, bh, bn, bs, bl, px, py, pm, zf cr k 24 (fun j => sp (24 * c + j)), sn, sx, sy, sm, sp, dg) → wX_restoreState_172 post tc ob ps su ep sd bc mA mB oX oY gY wD pC (nI c) (d + 1) (nI k) tk tv cb sk sv vk vv bp br bh bn bs bl px py pm cr sn sx sy sm sp dg := by
  intro d
  induction d with
  | zero =>
    intro k cr hk kk
    have : k = 24 := by omega
    subst this
    rw [zf_z] at kk
    exact ql_t 24 24 (by omega) kk
  | succ d ih =>
    intro k cr hk kk
    have e : (nI k).toNatClampNeg = k := zc_i (by omega)
    have e2 : (nI c * 24 + nI k).toNatClampNeg = 24 * c + k := by rw [zm_24]; exact zc_i (by omega)
    refine ql_f 24 k (by omega) ⟨by rw [zm_24]; exact vp_in_nI (by omega) (by omega), vp_in_nI (by omega) (by omega), nm_r (show _ = upd cr k (sp (24 * c + k)) by rw [e, e2]) (nm_r (nI_1 k) (ih (k + 1) _ (by omega) ?_))⟩
    rw [zf_s (g := fun j => sp (24 * c + j)) (by omega)]
    exact kk
theorem x_rest1 {post : SX → Prop} {c : Nat} (hc : c < 4) : ∀ (d k : Nat) (px py pm : Nat → Int32), k + d = 48 → post (tc, ob, ps, su, ep, sd, bc, mA, mB, oX, oY, gY, wD, pC, nI c, tk, tv, cb, sk, sv, vk, vv, bp, br, bh, bn, bs, bl, zf px k 48 (fun j => sx (48 * c + j)), zf py k 48 (fun j => sy (48 * c + j)), zf pm k 48 (fun j => sm (48 * c + j)), zf cr 0 24 (fun j => sp (24 * c + j)), sn, sx, sy, sm, sp, dg) → wX_restoreState_112 post tc ob ps su ep sd bc mA mB oX oY gY wD pC (nI c) (d + 1) (nI k) tk tv cb sk sv vk vv bp br bh bn bs bl px py pm cr sn sx sy sm sp dg := by
  intro d
  induction d with
  | zero =>
    intro k px py pm hk kk
    have : k = 48 := by omega
    subst this
    rw [zf_z, zf_z, zf_z] at kk
    exact ql_t 48 48 (by omega) ⟨25, x_rest2 hc 24 0 cr rfl kk⟩
  | succ d ih =>
    intro k px py pm hk kk
    have e : (nI k).toNatClampNeg = k := zc_i (by omega)
    have e2 : (nI (48 * c + k)).toNatClampNeg = 48 * c + k := zc_i (by omega)
    have i1 : vp_in (nI k) 48 := vp_in_nI (by omega) (by omega)
    have i2 : vp_in (nI (48 * c + k)) 192 := vp_in_nI (by omega) (by omega)
    refine ql_f 48 k (by omega) (nm_r (zm_48 c k) ⟨i2, i1, nm_r (show _ = upd px k (sx (48 * c + k)) by rw [e, e2]) ⟨i2, i1, nm_r (show _ = upd py k (sy (48 * c + k)) by rw [e, e2]) ⟨i2, i1, nm_r (show _ = upd pm k (sm (48 * c + k)) by rw [e, e2]) (nm_r (nI_1 k) (ih (k + 1) _ _ _ (by omega) ?_))⟩⟩⟩)
    rw [zf_s (g := fun j => sx (48 * c + j)) (by omega), zf_s (g := fun j => sy (48 * c + j)) (by omega), zf_s (g := fun j => sm (48 * c + j)) (by omega)]
    exact kk
theorem x_rest {post : SX → Prop} {c : Nat} (hc : c < 4) (hs : sC = nI (c + 1)) (k : post (tc, ob, ps, su, ep, sd, bc, sn (7 * c), sn (7 * c + 1), sn (7 * c + 2), sn (7 * c + 3), sn (7 * c + 4), sn (7 * c + 5), sn (7 * c + 6), nI c, tk, tv, cb, sk, sv, vk, vv, bp, br, bh, bn, bs, bl, zf px 0 48 (fun j => sx (48 * c + j)), zf py 0 48 (fun j => sy (48 * c + j)), zf pm 0 48 (fun j => sm (48 * c + j)), zf cr 0 24 (fun j => sp (24 * c + j)), sn, sx, sy, sm, sp, dg)) : wpX_restoreState post (tc, ob, ps, su, ep, sd, bc, mA, mB, oX, oY, gY, wD, pC, sC, tk, tv, cb, sk, sv, vk, vv, bp, br, bh, bn, bs, bl, px, py, pm, cr, sn, sx, sy, sm, sp, dg) := by
  subst hs
  unfold wpX_restoreState
  have e0 : (nI (7 * c)).toNatClampNeg = 7 * c := zc_i (by omega)
  refine ql_t 1 (c + 1) (by omega) (nm_r (nI_pred c) (nm_r (zm_7 c) ⟨vp_in_nI (by omega) (by omega), nm_r (congrArg sn e0) ⟨zm_in (i := 1) rfl (by omega) (by omega), nm_r (congrArg sn (zm_7a (i := 1) (by omega) (by omega) rfl)) ⟨zm_in (i := 2) rfl (by omega) (by omega), nm_r (congrArg sn (zm_7a (i := 2) (by omega) (by omega) rfl)) ⟨zm_in (i := 3) rfl (by omega) (by omega), nm_r (congrArg sn (zm_7a (i := 3) (by omega) (by omega) rfl)) ⟨zm_in (i := 4) rfl (by omega) (by omega), nm_r (congrArg sn (zm_7a (i := 4) (by omega) (by omega) rfl)) ⟨zm_in (i := 5) rfl (by omega) (by omega), nm_r (congrArg sn (zm_7a (i := 5) (by omega) (by omega) rfl)) ⟨zm_in (i := 6) rfl (by omega) (by omega), nm_r (congrArg sn (zm_7a (i := 6) (by omega) (by omega) rfl)) ⟨49, x_rest1 hc 48 0 px py pm rfl k⟩⟩⟩⟩⟩⟩⟩⟩))
theorem zm_l {w : Nat} {x : Int32} (hx : x = nI w) (B k : Nat) : x * nI B + nI k = nI (w * B + k) := by
  rw [hx, pk_mul, nI_add]
theorem zcp_e {f : Nat → Int32} {w A B k : Nat} {G : Nat → Int32} (hAB : A ≠ B) (hk : k < w) : zf f (w * B) (w * B + k) G (w * A + k) = f (w * A + k) := by
  rcases Nat.lt_or_ge A B with h | h
  · refine zf_lo ?_
    have : w * (A + 1) ≤ w * B := Nat.mul_le_mul_left w h
    rw [Nat.mul_add] at this
    omega
  · refine zf_hi ?_
    have : w * (B + 1) ≤ w * A := Nat.mul_le_mul_left w (by omega)
    rw [Nat.mul_add] at this
    omega
theorem y_copy3 {post : SY → Prop} {A B : Nat} (hA : A < 5) (hB : B < 5) (hAB : A ≠ B) (K : post (yt, yo, yh, yi, ya, ye, yp, ys, yc, nw, gn, bg, wd, tk, tv, dg, sk, sv, vk, vv, hw, fr, og, lf, st, la, fm, fc, gr, wi, mn, qx, qy, ss, cl, zf cp (576 * B) (576 * B + 576) (fun i => vp_nar .boolean (cp (576 * A + (i - 576 * B)))), nx, ny)) : ∀ (d k : Nat), k + d = 576 → wY_copy_188 post (nI A) (nI B) yt yo yh yi ya ye yp ys yc nw gn bg wd (d + 1) (nI k) tk tv dg sk sv vk vv hw fr og lf st la fm fc gr wi mn qx qy ss cl (zf cp (576 * B) (576 * B + k) (fun i => vp_nar .boolean (cp (576 * A + (i - 576 * B))))) nx ny := by
  intro d
  induction d with
  | zero =>
    intro k hk
    have : k = 576 := by omega
    subst this
    exact ql_t 576 576 (by omega) K
  | succ d ih =>
    intro k hk
    have eA : (576 * nI A + nI k).toNatClampNeg = 576 * A + k := by rw [zm_l (w := 576) (x := 576) rfl]; exact nI_clamp (by omega)
    have eB : (576 * nI B + nI k).toNatClampNeg = 576 * B + k := by rw [zm_l (w := 576) (x := 576) rfl]; exact nI_clamp (by omega)
    refine ql_f 576 k (by omega) ⟨by rw [zm_l (w := 576) (x := 576) rfl]; exact vp_in_nI (by omega) (by omega), by rw [zm_l (w := 576) (x := 576) rfl]; exact vp_in_nI (by omega) (by omega), nm_r ?_ (nm_r (nI_1 k) (ih (k + 1) (by omega)))⟩
    rw [eA, eB, zcp_e hAB (by omega), show 576 * B + (k + 1) = 576 * B + k + 1 by omega, ← zf_e (by omega), show 576 * B + k - 576 * B = k by omega]
theorem y_copy2 {post : SY → Prop} {A B : Nat} (hA : A < 5) (hB : B < 5) (hAB : A ≠ B) (K : post (yt, yo, yh, yi, ya, ye, yp, ys, yc, nw, gn, bg, wd, tk, tv, dg, sk, sv, vk, vv, hw, fr, og, lf, st, la, fm, fc, gr, wi, mn, zf qx (48 * B) (48 * B + 48) (fun i => qx (48 * A + (i - 48 * B))), zf qy (48 * B) (48 * B + 48) (fun i => qy (48 * A + (i - 48 * B))), zf ss (48 * B) (48 * B + 48) (fun i => vp_nar .boolean (ss (48 * A + (i - 48 * B)))), zf cl (48 * B) (48 * B + 48) (fun i => vp_nar .boolean (cl (48 * A + (i - 48 * B)))), zf cp (576 * B) (576 * B + 576) (fun i => vp_nar .boolean (cp (576 * A + (i - 576 * B)))), nx, ny)) : ∀ (d k : Nat), k + d = 48 → wY_copy_86 post (nI A) (nI B) yt yo yh yi ya ye yp ys yc nw gn bg wd (d + 1) (nI k) tk tv dg sk sv vk vv hw fr og lf st la fm fc gr wi mn (zf qx (48 * B) (48 * B + k) (fun i => qx (48 * A + (i - 48 * B)))) (zf qy (48 * B) (48 * B + k) (fun i => qy (48 * A + (i - 48 * B)))) (zf ss (48 * B) (48 * B + k) (fun i => vp_nar .boolean (ss (48 * A + (i - 48 * B))))) (zf cl (48 * B) (48 * B + k) (fun i => vp_nar .boolean (cl (48 * A + (i - 48 * B))))) cp nx ny := by
  intro d
  induction d with
  | zero =>
    intro k hk
    have : k = 48 := by omega
    subst this
    have := y_copy3 (A := A) (B := B) hA hB hAB K 576 0 rfl
    rw [Nat.add_zero (576 * B), zf_z] at this
    exact ql_t 48 48 (by omega) ⟨577, this⟩
  | succ d ih =>
    intro k hk
    have eA : (48 * nI A + nI k).toNatClampNeg = 48 * A + k := by rw [zm_l (w := 48) (x := 48) rfl]; exact nI_clamp (by omega)
    have eB : (48 * nI B + nI k).toNatClampNeg = 48 * B + k := by rw [zm_l (w := 48) (x := 48) rfl]; exact nI_clamp (by omega)
    have iA : vp_in (48 * nI A + nI k) 240 := by rw [zm_l (w := 48) (x := 48) rfl]; exact vp_in_nI (by omega) (by omega)
    have iB : vp_in (48 * nI B + nI k) 240 := by rw [zm_l (w := 48) (x := 48) rfl]; exact vp_in_nI (by omega) (by omega)
    refine ql_f 48 k (by omega) ⟨iA, iB, nm_r ?_ ⟨iA, iB, nm_r ?_ ⟨iA, iB, nm_r ?_ ⟨iA, iB, nm_r ?_ (nm_r (nI_1 k) (ih (k + 1) (by omega)))⟩⟩⟩⟩
    · rw [eA, eB, zcp_e hAB (by omega), show 48 * B + (k + 1) = 48 * B + k + 1 by omega, ← zf_e (by omega), show 48 * B + k - 48 * B = k by omega]
    · rw [eA, eB, zcp_e hAB (by omega), show 48 * B + (k + 1) = 48 * B + k + 1 by omega, ← zf_e (by omega), show 48 * B + k - 48 * B = k by omega]
    · rw [eA, eB, zcp_e hAB (by omega), show 48 * B + (k + 1) = 48 * B + k + 1 by omega, ← zf_e (by omega), show 48 * B + k - 48 * B = k by omega]
    · rw [eA, eB, zcp_e hAB (by omega), show 48 * B + (k + 1) = 48 * B + k + 1 by omega, ← zf_e (by omega), show 48 * B + k - 48 * B = k by omega]
theorem y_copy1 {post : SY → Prop} {A B : Nat} (hA : A < 5) (hB : B < 5) (hAB : A ≠ B) (K : post (yt, yo, yh, yi, ya, ye, yp, ys, yc, nw, gn, bg, wd, tk, tv, dg, sk, sv, vk, vv, hw, fr, og, lf, st, la, zf fm (6 * B) (6 * B + 6) (fun i => fm (6 * A + (i - 6 * B))), upd fc B (fc A), upd gr B (gr A), upd wi B (wi A), upd mn B (mn A), zf qx (48 * B) (48 * B + 48) (fun i => qx (48 * A + (i - 48 * B))), zf qy (48 * B) (48 * B + 48) (fun i => qy (48 * A + (i - 48 * B))), zf ss (48 * B) (48 * B + 48) (fun i => vp_nar .boolean (ss (48 * A + (i - 48 * B)))), zf cl (48 * B) (48 * B + 48) (fun i => vp_nar .boolean (cl (48 * A + (i - 48 * B)))), zf cp (576 * B) (576 * B + 576) (fun i => vp_nar .boolean (cp (576 * A + (i - 576 * B)))), nx, ny)) : ∀ (d k : Nat), k + d = 6 → wY_copy_2 post (nI A) (nI B) yt yo yh yi ya ye yp ys yc nw gn bg wd (d + 1) (nI k) tk tv dg sk sv vk vv hw fr og lf st la (zf fm (6 * B) (6 * B + k) (fun i => fm (6 * A + (i - 6 * B)))) fc gr wi mn qx qy ss cl cp nx ny := by
  intro d
  induction d with
  | zero =>
    intro k hk
    have : k = 6 := by omega
    subst this
    have := y_copy2 (A := A) (B := B) hA hB hAB K 48 0 rfl
    rw [Nat.add_zero (48 * B), zf_z, zf_z, zf_z, zf_z] at this
    have iA : vp_in (nI A) 5 := vp_in_nI hA (by omega)
    have iB : vp_in (nI B) 5 := vp_in_nI hB (by omega)
    have eA : (nI A).toNatClampNeg = A := zc_i (by omega)
    have eB : (nI B).toNatClampNeg = B := zc_i (by omega)
    exact ql_t 6 6 (by omega) ⟨iA, iB, nm_r (show _ = upd fc B (fc A) by rw [eA, eB]) ⟨iA, iB, nm_r (show _ = upd gr B (gr A) by rw [eA, eB]) ⟨iA, iB, nm_r (show _ = upd wi B (wi A) by rw [eA, eB]) ⟨iA, iB, nm_r (show _ = upd mn B (mn A) by rw [eA, eB]) ⟨49, this⟩⟩⟩⟩⟩
  | succ d ih =>
    intro k hk
    have eA : (6 * nI A + nI k).toNatClampNeg = 6 * A + k := by rw [zm_l (w := 6) (x := 6) rfl]; exact nI_clamp (by omega)
    have eB : (6 * nI B + nI k).toNatClampNeg = 6 * B + k := by rw [zm_l (w := 6) (x := 6) rfl]; exact nI_clamp (by omega)
    have iA : vp_in (6 * nI A + nI k) 30 := by rw [zm_l (w := 6) (x := 6) rfl]; exact vp_in_nI (by omega) (by omega)
    have iB : vp_in (6 * nI B + nI k) 30 := by rw [zm_l (w := 6) (x := 6) rfl]; exact vp_in_nI (by omega) (by omega)
    refine ql_f 6 k (by omega) ⟨iA, iB, nm_r ?_ (nm_r (nI_1 k) (ih (k + 1) (by omega)))⟩
    rw [eA, eB, zcp_e hAB (by omega), show 6 * B + (k + 1) = 6 * B + k + 1 by omega, ← zf_e (by omega), show 6 * B + k - 6 * B = k by omega]
theorem y_copy {post : SY → Prop} {A B : Nat} {x y : Int32} (hA : A < 5) (hB : B < 5) (hAB : A ≠ B) (hx : x = nI A) (hy : y = nI B) (K : post (yt, yo, yh, yi, ya, ye, yp, ys, yc, nw, gn, bg, wd, tk, tv, dg, sk, sv, vk, vv, hw, fr, og, lf, st, la, zf fm (6 * B) (6 * B + 6) (fun i => fm (6 * A + (i - 6 * B))), upd fc B (fc A), upd gr B (gr A), upd wi B (wi A), upd mn B (mn A), zf qx (48 * B) (48 * B + 48) (fun i => qx (48 * A + (i - 48 * B))), zf qy (48 * B) (48 * B + 48) (fun i => qy (48 * A + (i - 48 * B))), zf ss (48 * B) (48 * B + 48) (fun i => vp_nar .boolean (ss (48 * A + (i - 48 * B)))), zf cl (48 * B) (48 * B + 48) (fun i => vp_nar .boolean (cl (48 * A + (i - 48 * B)))), zf cp (576 * B) (576 * B + 576) (fun i => vp_nar .boolean (cp (576 * A + (i - 576 * B)))), nx, ny)) : wpY_copy post (yt, yo, yh, yi, ya, ye, yp, ys, yc, nw, gn, bg, wd, tk, tv, dg, sk, sv, vk, vv, hw, fr, og, lf, st, la, fm, fc, gr, wi, mn, qx, qy, ss, cl, cp, nx, ny) x y := by
  subst hx hy
  have := y_copy1 (A := A) (B := B) hA hB hAB K 6 0 rfl
  rw [Nat.add_zero (6 * B), zf_z] at this
  exact ⟨7, this⟩
theorem zft_c {ss' : Nat → Int32} {k : Nat} (h : ∀ j, j ≤ k → ss' j = ss j) : Zft ss' k = Zft ss k := by
  induction k with
  | zero => rfl
  | succ k ih =>
    by_cases e : ss (k + 1) = 0
    · rw [zft_0 e, zft_0 (by rw [h _ (Nat.le_refl _)]; exact e)]
      exact ih (fun j hj => h j (by omega))
    · rw [zft_s e, zft_s (by rw [h _ (Nat.le_refl _)]; exact e)]
theorem zpt_c {px' py' pm' qx' qy' ss' cl' : Nat → Int32} {pc : Nat} (h : ZPT pc px py pm qx qy ss cl) (e1 : ∀ k, k < 48 → px' k = px k) (e2 : ∀ k, k < 48 → py' k = py k) (e3 : ∀ k, k < 48 → pm' k = pm k) (e4 : ∀ k, k < 48 → qx' k = qx k) (e5 : ∀ k, k < 48 → qy' k = qy k) (e6 : ∀ k, k < 48 → Zb2 (ss k) → ss' k = ss k) (e7 : ∀ k, k < 48 → Zb2 (cl k) → cl' k = cl k) : ZPT pc px' py' pm' qx' qy' ss' cl' := by
  obtain ⟨h1, h2, h3⟩ := h
  have es : ∀ k, k < pc → ss' k = ss k := fun k hk => e6 k (by omega) (h3 k hk).2.2.1
  have ec : ∀ k, k < pc → cl' k = cl k := fun k hk => e7 k (by omega) (h3 k hk).2.2.2.1
  refine ⟨h1, fun hp => by rw [es 0 hp]; exact h2 hp, fun k hk => ?_⟩
  obtain ⟨a1, a2, a3, a4, a5, a6, a7⟩ := h3 k hk
  have hf : Zft ss' k = Zft ss k := zft_c (fun j hj => es j (by omega))
  have hl := zft_le ss k
  refine ⟨by rw [e4 k (by omega), e1 k (by omega)]; exact a1, by rw [e5 k (by omega), e2 k (by omega)]; exact a2, by rw [es k hk]; exact a3, by rw [ec k hk]; exact a4, ?_, by rw [e1 k (by omega)]; exact a6, by rw [e2 k (by omega)]; exact a7⟩
  rw [e3 k (by omega), es k hk, hf, ec _ (by omega)]
  exact a5
theorem zgs_c {a b ox oy g w m F G W M : Int32} {f f' px' py' pm' cr' qx' qy' ss' cl' cp' : Nat → Int32} (h : ZGS a b ox oy g w m px py pm cr f F G W M qx qy ss cl cp) (e0 : ∀ k, k < 6 → f' k = f k) (e1 : ∀ k, k < 48 → px' k = px k) (e2 : ∀ k, k < 48 → py' k = py k) (e3 : ∀ k, k < 48 → pm' k = pm k) (e8 : ∀ j, j < 24 → cr' j = cr j) (e4 : ∀ k, k < 48 → qx' k = qx k) (e5 : ∀ k, k < 48 → qy' k = qy k) (e6 : ∀ k, k < 48 → Zb2 (ss k) → ss' k = ss k) (e7 : ∀ k, k < 48 → Zb2 (cl k) → cl' k = cl k) (e9 : ∀ k, k < 576 → Zb2 (cp k) → cp' k = cp k) : ZGS a b ox oy g w m px' py' pm' cr' f' F G W M qx' qy' ss' cl' cp' := by
  obtain ⟨⟨g0, g1, g2, g3, g4, g5, g6⟩, h1, h2, h3, ⟨pc, h4, h5⟩, h6⟩ := h
  refine ⟨⟨?_, ?_, ?_, ?_, ?_, ?_, g6⟩, h1, h2, h3, ⟨pc, h4, zpt_c h5 e1 e2 e3 e4 e5 e6 e7⟩, fun j hj => ?_⟩
  · rw [e0 0 (by omega)]; exact g0
  · rw [e0 1 (by omega)]; exact g1
  · rw [e0 2 (by omega)]; exact g2
  · rw [e0 3 (by omega)]; exact g3
  · rw [e0 4 (by omega)]; exact g4
  · rw [e0 5 (by omega)]; exact g5
  · rw [e8 j hj]
    refine ⟨fun i hi => ?_, (h6 j hj).2⟩
    have := (h6 j hj).1 i hi
    rw [e9 _ (by omega) this.1]
    exact this
theorem st_gsave {t h n a c s pc : Nat} {PX : Int32 → SX → Prop} (hR : ZR t h n a c mA mB oX oY gY wD pC tk tv cb sk sv vk vv bp br bh bn bs bl px py pm cr sn sx sy sm sp hw fr og lf st la fm fc gr wi mn qx qy ss cl cp) (ha : a < t) (hk : tk a = 1) (hv : tv a = nI 21) (hpc : pC = nI pc) (hp48 : pc ≤ 48) (hE : ZE1 21 h sk pc = 0)
    (H : ∀ (e : Int32) (u' : SX) (v' : SY), ZStep a (s + 1) e u' v' → (∀ PY : SY → Prop, PY v' → wpY_execute PY (nI t, 0, nI h, nI n, nI a, 0, -1, nI (s + 1), nI c, nw, gn, bg, wd, tk, tv, dg, sk, sv, vk, vv, hw, fr, og, lf, st, la, fm, fc, gr, wi, mn, qx, qy, ss, cl, cp, nx, ny)) → PX e u') : wpX_execute PX (nI t, 0, nI a, nI s, -1, nI h, nI n, mA, mB, oX, oY, gY, wD, pC, nI c, tk, tv, cb, sk, sv, vk, vv, bp, br, bh, bn, bs, bl, px, py, pm, cr, sn, sx, sy, sm, sp, dg) (nI a) := by
  have hR' := hR
  obtain ⟨hT, hS, hV, hF, hPO, hG, hSV⟩ := hR
  have ht := hT.1
  have hh := hS.1
  have hmn := zg_mn hG hpc
  have hi : vp_in (nI a) 100 := vp_in_nI (by omega) (by omega)
  have e : (nI a).toNatClampNeg = a := zc_i (by omega)
  have ek : tk (nI a).toNatClampNeg = 1 := by rw [e]; exact hk
  have ev : tv (nI a).toNatClampNeg = nI 21 := by rw [e]; exact hv
  have hpn := po_next hPO ha (by rw [hk]; decide) (by rw [hk]; decide)
  obtain ⟨z1, z2, z3, z4⟩ := ze_0 hE
  have z1 : 0 ≤ h := z1
  have hc4 := hSV.1
  have Yck : ∀ Q : Int32 → SY → Prop, (c = 4 → Q 7 (nI t, 0, nI h, nI n, nI a, 0, -1, nI (s + 1), nI c, 0, 0, 0, 0, tk, tv, dg, sk, sv, vk, vv, hw, fr, og, lf, st, la, fm, fc, gr, wi, mn, qx, qy, ss, cl, cp, nx, ny)) → (c ≠ 4 → Q 0 (nI t, 0, nI h, nI n, nI a, 0, -1, nI (s + 1), nI c, 0, 0, 0, 0, tk, tv, dg, sk, sv, vk, vv, hw, fr, og, lf, st, la, fm, fc, gr, wi, mn, qx, qy, ss, cl, cp, nx, ny)) → wY_check_87 Q (nI 21) (nI (ztk 21)) (nI t) 0 (nI h) (nI n) (nI a) 0 (-1) (nI (s + 1)) (nI c) nw gn bg wd tk tv dg sk sv vk vv hw fr og lf st la fm fc gr wi mn qx qy ss cl cp nx ny := by
    intro Q k7 k0
    refine y_plan0 (by decide) (by decide) (by decide) (br_f (by decide) (br_f (by decide) (br_f (y_48 hmn hp48) (br_t rfl (pk_eq c 4 (fun q => k7 q) (fun q => y_ck179 (n := 0) rfl hh z1 rfl (by decide) (by decide) (by decide) (by decide) (by decide) (by decide) (y_ck335n (by decide) (by decide) (by decide) (by decide) (by decide) (by decide) (k0 q))))))))
  refine nm_r (nI_1 s) (nm_r (nI_1 a) ⟨hi, br_t ek ⟨hi, nm_r ev (x_oe0 (by decide) hh hp48 rfl hpc hE (br_t rfl (br_t (by decide) (br_f (by decide) (br_f (by decide) (br_f (by decide) (br_t (by decide) (br_t (by decide) (?_)))))))))⟩⟩)
  unfold wX_execute_118 wpX_changeState
  refine x_operandA (j := 0) rfl rfl hh (by omega) (fun _ => br_f (by decide) (br_f (by decide) (br_t rfl (?_))))
  by_cases c4 : c = 4
  · unfold wpX_saveState
    refine br_f (by rw [c4]; decide) (x_153e (by decide) (H 7 _ (nI t, 0, nI h, nI n, nI a, 7, -1, nI (s + 1), nI c, 0, 0, 0, 0, tk, tv, dg, sk, sv, vk, vv, hw, fr, og, lf, st, la, fm, fc, gr, wi, mn, qx, qy, ss, cl, cp, nx, ny) (zs_er hR' (by decide)) (fun PY hp => ?_)))
    refine ⟨hi, nm_r ev ⟨hi, nm_r ek (br_f (by decide) (br_f (by decide) (br_f (by decide) (br_t rfl ?_))))⟩⟩
    unfold wY_execute_245 wpY_operate
    refine y_check (by decide) hh hp48 (zst_k hS) rfl hmn (fun z => absurd hE z) (fun _ z => absurd z (by decide)) (fun _ _ _ => Yck _ (fun _ => br_f (by decide) hp) (fun z => absurd c4 z))
  · refine x_save (by omega) rfl (x_153 (n := 0) (by decide) rfl z1 rfl (H 0 _ (nI t, 0, nI h, nI n, nI a + 1, 0, -1, nI (s + 1), nI (c + 1), 0, 0, 0, 0, tk, tv, dg, sk, sv, vk, vv, hw, fr, og, lf, st, la, zf fm (6 * (c + 1)) (6 * (c + 1) + 6) (fun i => fm (6 * 0 + (i - 6 * (c + 1)))), upd fc (c + 1) (fc 0), upd gr (c + 1) (gr 0), upd wi (c + 1) (wi 0), upd mn (c + 1) (mn 0), zf qx (48 * (c + 1)) (48 * (c + 1) + 48) (fun i => qx (48 * 0 + (i - 48 * (c + 1)))), zf qy (48 * (c + 1)) (48 * (c + 1) + 48) (fun i => qy (48 * 0 + (i - 48 * (c + 1)))), zf ss (48 * (c + 1)) (48 * (c + 1) + 48) (fun i => vp_nar .boolean (ss (48 * 0 + (i - 48 * (c + 1))))), zf cl (48 * (c + 1)) (48 * (c + 1) + 48) (fun i => vp_nar .boolean (cl (48 * 0 + (i - 48 * (c + 1))))), zf cp (576 * (c + 1)) (576 * (c + 1) + 576) (fun i => vp_nar .boolean (cp (576 * 0 + (i - 576 * (c + 1))))), nx, ny) (zs_ok (c := c + 1) ⟨hT, hS, hV, hF, hpn, ?_, ?_⟩ rfl (nI_1 a) rfl rfl rfl rfl rfl rfl) (fun PY hp => ?_)))
    · rw [pk_un (by omega), pk_un (by omega), pk_un (by omega), pk_un (by omega)]
      exact zgs_c hG (fun k hk => zf_lo (by omega)) (fun _ _ => rfl) (fun _ _ => rfl) (fun _ _ => rfl) (fun _ _ => rfl) (fun k hk => zf_lo (by omega)) (fun k hk => zf_lo (by omega)) (fun k hk _ => zf_lo (by omega)) (fun k hk _ => zf_lo (by omega)) (fun k hk _ => zf_lo (by omega))
    · refine ⟨by omega, fun i hi => ?_⟩
      by_cases ei : i = c
      · subst ei
        have f0 : ∀ k, k < 7 → k ≠ 0 → True := fun _ _ _ => trivial
        have g : ZGS mA mB oX oY gY wD pC _ _ _ _ _ (fc 0) (gr 0) (wi 0) (mn 0) _ _ _ _ _ := zgs_c hG (f' := fun k => zf fm (6 * (i + 1)) (6 * (i + 1) + 6) (fun q => fm (6 * 0 + (q - 6 * (i + 1)))) (6 * (i + 1) + k)) (px' := fun k => zf sx (48 * i) (48 * i + 48) (fun q => px (q - 48 * i)) (48 * i + k)) (py' := fun k => zf sy (48 * i) (48 * i + 48) (fun q => py (q - 48 * i)) (48 * i + k)) (pm' := fun k => zf sm (48 * i) (48 * i + 48) (fun q => pm (q - 48 * i)) (48 * i + k)) (cr' := fun k => zf sp (24 * i) (24 * i + 24) (fun q => cr (q - 24 * i)) (24 * i + k))
          (qx' := fun k => zf qx (48 * (i + 1)) (48 * (i + 1) + 48) (fun q => qx (48 * 0 + (q - 48 * (i + 1)))) (48 * (i + 1) + k)) (qy' := fun k => zf qy (48 * (i + 1)) (48 * (i + 1) + 48) (fun q => qy (48 * 0 + (q - 48 * (i + 1)))) (48 * (i + 1) + k)) (ss' := fun k => zf ss (48 * (i + 1)) (48 * (i + 1) + 48) (fun q => vp_nar .boolean (ss (48 * 0 + (q - 48 * (i + 1))))) (48 * (i + 1) + k)) (cl' := fun k => zf cl (48 * (i + 1)) (48 * (i + 1) + 48) (fun q => vp_nar .boolean (cl (48 * 0 + (q - 48 * (i + 1))))) (48 * (i + 1) + k)) (cp' := fun k => zf cp (576 * (i + 1)) (576 * (i + 1) + 576) (fun q => vp_nar .boolean (cp (576 * 0 + (q - 576 * (i + 1))))) (576 * (i + 1) + k))
          (fun k hk => ?_) (fun k hk => ?_) (fun k hk => ?_) (fun k hk => ?_) (fun k hk => ?_) (fun k hk => ?_) (fun k hk => ?_) (fun k hk hb => ?_) (fun k hk hb => ?_) (fun k hk hb => ?_)
        · simp only [pk_us, pk_un (show 7 * i ≠ 7 * i + 1 by omega), pk_un (show 7 * i ≠ 7 * i + 2 by omega), pk_un (show 7 * i ≠ 7 * i + 3 by omega), pk_un (show 7 * i ≠ 7 * i + 4 by omega), pk_un (show 7 * i ≠ 7 * i + 5 by omega), pk_un (show 7 * i ≠ 7 * i + 6 by omega), pk_un (show 7 * i + 1 ≠ 7 * i + 2 by omega), pk_un (show 7 * i + 1 ≠ 7 * i + 3 by omega), pk_un (show 7 * i + 1 ≠ 7 * i + 4 by omega), pk_un (show 7 * i + 1 ≠ 7 * i + 5 by omega), pk_un (show 7 * i + 1 ≠ 7 * i + 6 by omega), pk_un (show 7 * i + 2 ≠ 7 * i + 3 by omega), pk_un (show 7 * i + 2 ≠ 7 * i + 4 by omega), pk_un (show 7 * i + 2 ≠ 7 * i + 5 by omega), pk_un (show 7 * i + 2 ≠ 7 * i + 6 by omega), pk_un (show 7 * i + 3 ≠ 7 * i + 4 by omega), pk_un (show 7 * i + 3 ≠ 7 * i + 5 by omega), pk_un (show 7 * i + 3 ≠ 7 * i + 6 by omega), pk_un (show 7 * i + 4 ≠ 7 * i + 5 by omega), pk_un (show 7 * i + 4 ≠ 7 * i + 6 by omega), pk_un (show 7 * i + 5 ≠ 7 * i + 6 by omega)]
          exact g
        · rw [zf_in (by omega) (by omega)]; exact congrArg fm (by omega)
        · rw [zf_in (by omega) (by omega)]; exact congrArg px (by omega)
        · rw [zf_in (by omega) (by omega)]; exact congrArg py (by omega)
        · rw [zf_in (by omega) (by omega)]; exact congrArg pm (by omega)
        · rw [zf_in (by omega) (by omega)]; exact congrArg cr (by omega)
        · rw [zf_in (by omega) (by omega)]; exact congrArg qx (by omega)
        · rw [zf_in (by omega) (by omega)]; exact congrArg qy (by omega)
        · rw [zf_in (by omega) (by omega), show 48 * 0 + (48 * (i + 1) + k - 48 * (i + 1)) = k by omega]; exact zb_b hb
        · rw [zf_in (by omega) (by omega), show 48 * 0 + (48 * (i + 1) + k - 48 * (i + 1)) = k by omega]; exact zb_b hb
        · rw [zf_in (by omega) (by omega), show 576 * 0 + (576 * (i + 1) + k - 576 * (i + 1)) = k by omega]; exact zb_b hb
      · have hic : i < c := by omega
        have g := hSV.2 i hic
        have sne : ∀ r, r < 7 → (upd (upd (upd (upd (upd (upd (upd sn (7 * c) mA) (7 * c + 1) mB) (7 * c + 2) oX) (7 * c + 3) oY) (7 * c + 4) gY) (7 * c + 5) wD) (7 * c + 6) pC) (7 * i + r) = sn (7 * i + r) := by
          intro r hr
          rw [pk_un (by omega), pk_un (by omega), pk_un (by omega), pk_un (by omega), pk_un (by omega), pk_un (by omega), pk_un (by omega)]
        have s0 := sne 0 (by omega)
        rw [Nat.add_zero (7 * i)] at s0
        rw [s0, sne 1 (by omega), sne 2 (by omega), sne 3 (by omega), sne 4 (by omega), sne 5 (by omega), sne 6 (by omega), pk_un (f := fc) (by omega), pk_un (f := gr) (by omega), pk_un (f := wi) (by omega), pk_un (f := mn) (by omega)]
        exact zgs_c g (fun k hk => zf_lo (by omega)) (fun k hk => zf_lo (by omega)) (fun k hk => zf_lo (by omega)) (fun k hk => zf_lo (by omega)) (fun k hk => zf_lo (by omega)) (fun k hk => zf_lo (by omega)) (fun k hk => zf_lo (by omega)) (fun k hk _ => zf_lo (by omega)) (fun k hk _ => zf_lo (by omega)) (fun k hk _ => zf_lo (by omega))
    · refine ⟨hi, nm_r ev ⟨hi, nm_r ek (br_f (by decide) (br_f (by decide) (br_f (by decide) (br_t rfl ?_))))⟩⟩
      unfold wY_execute_245 wpY_operate
      refine y_check (by decide) hh hp48 (zst_k hS) rfl hmn (fun z => absurd hE z) (fun _ z => absurd z (by decide)) (fun _ _ _ => Yck _ (fun z => absurd z c4) (fun _ => br_t rfl ?_))
      refine br_t (by decide) (br_t (by decide) (br_f (by decide) (y_st0 (by decide) rfl ?_)))
      refine br_t rfl (nm_r (nI_1 c) (y_copy (A := 0) (B := c + 1) (by omega) (by omega) (by omega) rfl rfl ?_))
      exact br_f (by decide) (br_f (by decide) (br_f (by decide) (br_f (by decide) (br_f (by decide) (br_f (by decide) (y_s259 (n := 0) (by decide) rfl z1 rfl hp))))))
theorem st_grestore {t h n a c s pc : Nat} {PX : Int32 → SX → Prop} (hR : ZR t h n a c mA mB oX oY gY wD pC tk tv cb sk sv vk vv bp br bh bn bs bl px py pm cr sn sx sy sm sp hw fr og lf st la fm fc gr wi mn qx qy ss cl cp) (ha : a < t) (hk : tk a = 1) (hv : tv a = nI 22) (hpc : pC = nI pc) (hp48 : pc ≤ 48) (hE : ZE1 22 h sk pc = 0)
    (H : ∀ (e : Int32) (u' : SX) (v' : SY), ZStep a (s + 1) e u' v' → (∀ PY : SY → Prop, PY v' → wpY_execute PY (nI t, 0, nI h, nI n, nI a, 0, -1, nI (s + 1), nI c, nw, gn, bg, wd, tk, tv, dg, sk, sv, vk, vv, hw, fr, og, lf, st, la, fm, fc, gr, wi, mn, qx, qy, ss, cl, cp, nx, ny)) → PX e u') : wpX_execute PX (nI t, 0, nI a, nI s, -1, nI h, nI n, mA, mB, oX, oY, gY, wD, pC, nI c, tk, tv, cb, sk, sv, vk, vv, bp, br, bh, bn, bs, bl, px, py, pm, cr, sn, sx, sy, sm, sp, dg) (nI a) := by
  have hR' := hR
  obtain ⟨hT, hS, hV, hF, hPO, hG, hSV⟩ := hR
  have ht := hT.1
  have hh := hS.1
  have hmn := zg_mn hG hpc
  have hi : vp_in (nI a) 100 := vp_in_nI (by omega) (by omega)
  have e : (nI a).toNatClampNeg = a := zc_i (by omega)
  have ek : tk (nI a).toNatClampNeg = 1 := by rw [e]; exact hk
  have ev : tv (nI a).toNatClampNeg = nI 22 := by rw [e]; exact hv
  have hpn := po_next hPO ha (by rw [hk]; decide) (by rw [hk]; decide)
  obtain ⟨z1, z2, z3, z4⟩ := ze_0 hE
  have z1 : 0 ≤ h := z1
  have hc4 := hSV.1
  refine nm_r (nI_1 s) (nm_r (nI_1 a) ⟨hi, br_t ek ⟨hi, nm_r ev (x_oe0 (by decide) hh hp48 rfl hpc hE (br_t rfl (br_t (by decide) (br_f (by decide) (br_f (by decide) (br_f (by decide) (br_t (by decide) (br_t (by decide) (?_)))))))))⟩⟩)
  unfold wX_execute_118 wpX_changeState
  refine x_operandA (j := 0) rfl rfl hh (by omega) (fun _ => br_f (by decide) (br_f (by decide) (br_f (by decide) (br_t rfl (?_)))))
  by_cases c0 : c = 0
  · unfold wpX_restoreState
    refine br_f (by rw [c0]; decide) (x_153 (n := 0) (by decide) rfl z1 rfl (H 0 _ (nI t, 0, nI h, nI n, nI a + 1, 0, -1, nI (s + 1), nI c, 0, 0, 0, 0, tk, tv, dg, sk, sv, vk, vv, hw, fr, og, lf, st, la, fm, fc, gr, wi, mn, qx, qy, ss, cl, cp, nx, ny) (zs_ok ⟨hT, hS, hV, hF, hpn, hG, hSV⟩ rfl (nI_1 a) rfl rfl rfl rfl rfl rfl) (fun PY hp => ?_)))
    refine ⟨hi, nm_r ev ⟨hi, nm_r ek (br_f (by decide) (br_f (by decide) (br_f (by decide) (br_t rfl ?_))))⟩⟩
    unfold wY_execute_245 wpY_operate
    refine y_check (by decide) hh hp48 (zst_k hS) rfl hmn (fun z => absurd hE z) (fun _ z => absurd z (by decide)) (fun _ _ _ => y_ck87 rfl hh z1 hmn hp48 (by decide) (by decide) (by decide) (by decide) (by decide) (by decide) (by decide) (by decide) (by decide) (by decide) (by decide) (y_ck335n (by decide) (by decide) (by decide) (by decide) (by decide) (by decide) (br_t rfl ?_)))
    refine br_t (by decide) (br_t (by decide) (br_f (by decide) (y_st0 (by decide) rfl ?_)))
    exact br_f (by decide) (br_t rfl (br_t (by rw [c0]; decide) (br_f (by decide) (br_f (by decide) (br_f (by decide) (br_f (by decide) (br_f (by decide) (y_s259 (n := 0) (by decide) rfl z1 rfl hp))))))))
  · obtain ⟨m, rfl⟩ : ∃ m, c = m + 1 := ⟨c - 1, by omega⟩
    have g := hSV.2 m (by omega)
    refine x_rest (by omega) rfl (x_153 (n := 0) (by decide) rfl z1 rfl (H 0 _ (nI t, 0, nI h, nI n, nI a + 1, 0, -1, nI (s + 1), nI m, 0, 0, 0, 0, tk, tv, dg, sk, sv, vk, vv, hw, fr, og, lf, st, la, zf fm (6 * 0) (6 * 0 + 6) (fun i => fm (6 * (m + 1) + (i - 6 * 0))), upd fc 0 (fc (m + 1)), upd gr 0 (gr (m + 1)), upd wi 0 (wi (m + 1)), upd mn 0 (mn (m + 1)), zf qx (48 * 0) (48 * 0 + 48) (fun i => qx (48 * (m + 1) + (i - 48 * 0))), zf qy (48 * 0) (48 * 0 + 48) (fun i => qy (48 * (m + 1) + (i - 48 * 0))), zf ss (48 * 0) (48 * 0 + 48) (fun i => vp_nar .boolean (ss (48 * (m + 1) + (i - 48 * 0)))), zf cl (48 * 0) (48 * 0 + 48) (fun i => vp_nar .boolean (cl (48 * (m + 1) + (i - 48 * 0)))), zf cp (576 * 0) (576 * 0 + 576) (fun i => vp_nar .boolean (cp (576 * (m + 1) + (i - 576 * 0)))), nx, ny) (zs_ok (c := m) ⟨hT, hS, hV, hF, hpn, ?_, ?_⟩ rfl (nI_1 a) rfl rfl rfl rfl rfl rfl) (fun PY hp => ?_)))
    · refine zgs_c g (fun k hk => ?_) (fun k hk => ?_) (fun k hk => ?_) (fun k hk => ?_) (fun k hk => ?_) (fun k hk => ?_) (fun k hk => ?_) (fun k hk hb => ?_) (fun k hk hb => ?_) (fun k hk hb => ?_)
      · rw [zf_in (by omega) (by omega)]; exact congrArg fm (by omega)
      · rw [zf_in (by omega) (by omega)]
      · rw [zf_in (by omega) (by omega)]
      · rw [zf_in (by omega) (by omega)]
      · rw [zf_in (by omega) (by omega)]
      · rw [zf_in (by omega) (by omega)]; exact congrArg qx (by omega)
      · rw [zf_in (by omega) (by omega)]; exact congrArg qy (by omega)
      · rw [zf_in (by omega) (by omega), show 48 * (m + 1) + (k - 48 * 0) = 48 * (m + 1) + k by omega]; exact zb_b hb
      · rw [zf_in (by omega) (by omega), show 48 * (m + 1) + (k - 48 * 0) = 48 * (m + 1) + k by omega]; exact zb_b hb
      · rw [zf_in (by omega) (by omega), show 576 * (m + 1) + (k - 576 * 0) = 576 * (m + 1) + k by omega]; exact zb_b hb
    · refine zsv_up ⟨by omega, fun i hi => hSV.2 i (by omega)⟩ (fun i hi => zf_hi (by omega)) zr_u zr_u zr_u zr_u (fun i hi => zf_hi (by omega)) (fun i hi => zf_hi (by omega)) (fun i hi => zf_hi (by omega)) (fun i hi => zf_hi (by omega)) (fun i hi => zf_hi (by omega))
    · refine ⟨hi, nm_r ev ⟨hi, nm_r ek (br_f (by decide) (br_f (by decide) (br_f (by decide) (br_t rfl ?_))))⟩⟩
      unfold wY_execute_245 wpY_operate
      refine y_check (by decide) hh hp48 (zst_k hS) rfl hmn (fun z => absurd hE z) (fun _ z => absurd z (by decide)) (fun _ _ _ => y_ck87 rfl hh z1 hmn hp48 (by decide) (by decide) (by decide) (by decide) (by decide) (by decide) (by decide) (by decide) (by decide) (by decide) (by decide) (y_ck335n (by decide) (by decide) (by decide) (by decide) (by decide) (by decide) (br_t rfl ?_)))
      refine br_t (by decide) (br_t (by decide) (br_f (by decide) (y_st0 (by decide) rfl ?_)))
      refine br_f (by decide) (br_t rfl (ql_f (m + 1) 0 (by omega) (y_copy (A := m + 1) (B := 0) (by omega) (by omega) (by omega) rfl rfl (nm_r (nI_pred m) ?_))))
      exact br_f (by decide) (br_f (by decide) (br_f (by decide) (br_f (by decide) (br_f (by decide) (y_s259 (n := 0) (by decide) rfl z1 rfl hp)))))
end
