section
variable {tc ob ps su ep sd bc mA mB oX oY gY wD pC sC yt yo yh yi ya ye yp ys yc nw gn bg wd : Int32} {tk tv cb sk sv vk vv bp br bh bn bs bl px py pm cr sn sx sy sm sp dg hw fr og lf st la fm fc gr wi mn qx qy ss cl cp nx ny : Nat → Int32}
theorem st_dot {t h n a c s pc : Nat} {PX : Int32 → SX → Prop} (hR : ZR t h n a c mA mB oX oY gY wD pC tk tv cb sk sv vk vv bp br bh bn bs bl px py pm cr sn sx sy sm sp hw fr og lf st la fm fc gr wi mn qx qy ss cl cp) (ha : a < t) (hk : tk a = 1) (hv : tv a = nI 43) (hpc : pC = nI pc) (hp48 : pc ≤ 48) (hE : ZE1 43 h sk pc = 0)
    (H : ∀ (e : Int32) (u' : SX) (v' : SY), ZStep a (s + 1) e u' v' → (∀ PY : SY → Prop, PY v' → wpY_execute PY (nI t, 0, nI h, nI n, nI a, 0, -1, nI (s + 1), nI c, nw, gn, bg, wd, tk, tv, dg, sk, sv, vk, vv, hw, fr, og, lf, st, la, fm, fc, gr, wi, mn, qx, qy, ss, cl, cp, nx, ny)) → PX e u') : wpX_execute PX (nI t, 0, nI a, nI s, -1, nI h, nI n, mA, mB, oX, oY, gY, wD, pC, nI c, tk, tv, cb, sk, sv, vk, vv, bp, br, bh, bn, bs, bl, px, py, pm, cr, sn, sx, sy, sm, sp, dg) (nI a) := by
  have hR' := hR
  obtain ⟨hT, hS, hV, hF, hPO, hG, hSV⟩ := hR
  have ht := hT.1
  have hh := hS.1
  have hmn := zg_mn hG hpc
  have hi : vp_in (nI a) 100 := vp_in_nI (by omega) (by omega)
  have e : (nI a).toNatClampNeg = a := zc_i (by omega)
  have ek : tk (nI a).toNatClampNeg = 1 := by rw [e]; exact hk
  have ev : tv (nI a).toNatClampNeg = nI 43 := by rw [e]; exact hv
  have hpn := po_next hPO ha (by rw [hk]; decide) (by rw [hk]; decide)
  obtain ⟨z1, z2, z3, z4⟩ := ze_0 hE
  have z1 : 2 ≤ h := z1
  have z4 : h - 2 + 1 ≤ 24 := z4
  refine nm_r (nI_1 s) (nm_r (nI_1 a) ⟨hi, br_t ek ⟨hi, nm_r ev (x_oe0 (by decide) hh hp48 rfl hpc hE (br_t rfl (br_t (by decide) (br_f (by decide) (br_f (by decide) (br_t rfl (?_)))))))⟩⟩)
  unfold wX_execute_82 wpX_rearrange
  refine br_f (by decide) (br_f (by decide) (br_f (by decide) (br_f (by decide) (br_f (by decide) (br_f (by decide) (br_f (by decide) (?_)))))))
  unfold wpX_putGray
  refine x_operand (j := 1) rfl rfl hh (by omega) (x_operand (j := 0) rfl rfl hh (by omega) (x_grayAt (nm_r (pk_sub (b := 2) z1) (x_put rfl (by omega) (H 0 _ (nI t, 0, nI (h - 2 + 1), nI n, nI a + 1, 0, -1, nI (s + 1), nI c, 0, 0, 0, 0, tk, tv, dg, upd sk (h - 2) 0, upd sv (h - 2) (zdt dg (sv (h - 1 - 1)) (sv (h - 1 - 0))), vk, vv, hw, fr, og, lf, st, la, fm, fc, gr, wi, mn, qx, qy, ss, cl, cp, nx, ny) (zs_ok ⟨hT, zst_put (zst_le hS (by omega)) (by omega) zv_0, hV, hF, hpn, hG, hSV⟩ rfl (nI_1 a) rfl rfl rfl rfl rfl rfl) (fun PY hp => ?_))))))
  refine ⟨hi, nm_r ev ⟨hi, nm_r ek (br_f (by decide) (br_f (by decide) (br_f (by decide) (br_t rfl ?_))))⟩⟩
  unfold wY_execute_245 wpY_operate
  refine y_check (by decide) hh hp48 (zst_k hS) rfl hmn (fun z => absurd hE z) (fun _ z => absurd z (by decide)) (fun _ _ _ => y_ck87 rfl hh z1 hmn hp48 (by decide) (by decide) (by decide) (by decide) (by decide) (by decide) (by decide) (by decide) (by decide) (by decide) (by decide) (y_ck335n (by decide) (by decide) (by decide) (by decide) (by decide) (by decide) (br_t rfl ?_)))
  refine br_t (by decide) (br_t (by decide) (br_t (by decide) (br_f (by decide) (br_f (by decide) (?_)))))
  refine br_t rfl (y_top (j := 1) rfl rfl hh (by omega) (y_top (j := 0) rfl rfl hh (by omega) (y_dot (nm_r (pk_sub (b := 2) z1) (y_put rfl (by omega) (br_t (by decide) (br_t (by decide) ⟨1, br_f (by decide) (br_f (by decide) (y_p165 (by decide) hp))⟩)))))))
theorem zg_pt {a b ox oy g w m F G W M : Int32} {f : Nat → Int32} {pc : Nat} (hG : ZGS a b ox oy g w m px py pm cr f F G W M qx qy ss cl cp) (e : m = nI pc) (hp : pc ≤ 48) : ZPT pc px py pm qx qy ss cl := by
  obtain ⟨_, _, _, _, ⟨q, hq, hP⟩, _⟩ := hG
  have := (nI_eq (a := q) (b := pc) (by have := hP.1; omega) (by omega)).mp (hq.symm.trans e)
  rw [this] at hP
  exact hP
theorem zmk_1 {s c : Int32} : (Zmk s c &&& 1) = 0 ↔ s = 0 := by
  unfold Zmk
  by_cases hs : s = 0 <;> by_cases hc : c = 0 <;> simp only [hs, hc, if_true, if_false] <;> decide
theorem zmk_2 {s c : Int32} : (Zmk s c &&& 2) = 0 ↔ c = 0 := by
  unfold Zmk
  by_cases hs : s = 0 <;> by_cases hc : c = 0 <;> simp only [hs, hc, if_true, if_false] <;> decide
theorem zmk_e {s c : Int32} : Zmk s c = 1 ↔ s ≠ 0 ∧ c = 0 := by
  unfold Zmk
  by_cases hs : s = 0 <;> by_cases hc : c = 0 <;> simp only [hs, hc, if_true, if_false, ne_eq, not_false_eq_true, not_true_eq_false] <;> decide
theorem zmk_or {s c : Int32} : Zmk s c ||| 2 = Zmk s 1 := by
  unfold Zmk
  by_cases hs : s = 0 <;> by_cases hc : c = 0 <;> simp only [hs, hc, if_true, if_false] <;> decide
theorem x_lastSub_l {post : Int32 → Prop} {pc : Nat} (hP : ZPT pc px py pm qx qy ss cl) : ∀ k, k < pc → post (nI (Zft ss k)) → wX_lastSubpath_7 post tc ob ps su ep sd bc mA mB oX oY gY wD pC sC tk tv cb sk sv vk vv bp br bh bn bs bl px py pm cr sn sx sy sm sp dg (k + 1) (nI k) := by
  intro k
  have h48 := hP.1
  induction k with
  | zero => intro _ kk; exact ql_t 0 0 (by omega) kk
  | succ k ih =>
    intro hk kk
    obtain ⟨_, _, _, _, hm, _⟩ := hP.2.2 (k + 1) hk
    refine ql_f (k + 1) 0 (by omega) ⟨vp_in_nI (by omega) (by omega), ?_⟩
    rw [zc_i (n := k + 1) (by omega), hm]
    refine br_c (fun q => ?_) (fun q => ?_)
    · rw [zft_0 (zmk_1.mp q)] at kk
      exact nm_r (pk_m1 k) (ih (by omega) kk)
    · rw [zft_s (fun z => q (zmk_1.mpr z))] at kk
      exact kk
theorem x_lastSub {post : Int32 → Prop} {pc : Nat} (hP : ZPT (pc + 1) px py pm qx qy ss cl) (hc : pC = nI (pc + 1)) (k : post (nI (Zft ss pc))) : wpX_lastSubpath post (tc, ob, ps, su, ep, sd, bc, mA, mB, oX, oY, gY, wD, pC, sC, tk, tv, cb, sk, sv, vk, vv, bp, br, bh, bn, bs, bl, px, py, pm, cr, sn, sx, sy, sm, sp, dg) := by
  subst hc
  exact nm_r (nI_pred pc) ⟨pc + 1, x_lastSub_l hP pc (by omega) k⟩
theorem y_fol_l {post : Int32 → Prop} (h0 : ss 0 ≠ 0) : ∀ k, k < 240 → post (nI (Zft ss k)) → wY_firstOfLast_9 post yt yo yh yi ya ye yp ys yc nw gn bg wd tk tv dg sk sv vk vv hw fr og lf st la fm fc gr wi mn qx qy ss cl cp nx ny (k + 1) (nI k) := by
  intro k
  induction k with
  | zero =>
    intro _ kk
    refine ⟨vp_in_nI (by omega) (by omega), ?_⟩
    rw [zc_i (by omega)]
    exact br_f h0 kk
  | succ k ih =>
    intro hk kk
    refine ⟨vp_in_nI (by omega) (by omega), ?_⟩
    rw [zc_i (n := k + 1) (by omega)]
    refine br_c (fun q => ?_) (fun q => ?_)
    · rw [zft_0 q] at kk
      exact nm_r (pk_m1 k) (ih (by omega) kk)
    · rw [zft_s q] at kk
      exact kk
theorem y_fol {post : Int32 → Prop} {pc : Nat} (h0 : ss 0 ≠ 0) (hm : mn 0 = nI (pc + 1)) (hp : pc < 240) (k : post (nI (Zft ss pc))) : wpY_firstOfLast post (yt, yo, yh, yi, ya, ye, yp, ys, yc, nw, gn, bg, wd, tk, tv, dg, sk, sv, vk, vv, hw, fr, og, lf, st, la, fm, fc, gr, wi, mn, qx, qy, ss, cl, cp, nx, ny) := by
  show ∀ x1 : Int32, x1 = mn 0 - 1 → ∃ q, wY_firstOfLast_9 post yt yo yh yi ya ye yp ys yc nw gn bg wd tk tv dg sk sv vk vv hw fr og lf st la fm fc gr wi mn qx qy ss cl cp nx ny q x1
  rw [hm]
  exact nm_r (nI_pred pc) ⟨pc + 1, y_fol_l h0 pc hp k⟩
theorem x_lastClosed {post : Int32 → Prop} {pc : Nat} (hP : ZPT (pc + 1) px py pm qx qy ss cl) (hc : pC = nI (pc + 1)) (k : post (if cl (Zft ss pc) = 0 then 0 else 1)) : wpX_isLastClosed post (tc, ob, ps, su, ep, sd, bc, mA, mB, oX, oY, gY, wD, pC, sC, tk, tv, cb, sk, sv, vk, vv, bp, br, bh, bn, bs, bl, px, py, pm, cr, sn, sx, sy, sm, sp, dg) := by
  subst hc
  have h48 := hP.1
  have e1 : nI (pc + 1) - 1 = nI pc := nI_pred pc
  obtain ⟨_, _, _, _, hm, _⟩ := hP.2.2 pc (by omega)
  refine ql_f (pc + 1) 0 (by omega) ⟨by rw [e1]; exact vp_in_nI (by omega) (by omega), ?_⟩
  rw [e1, zc_i (by omega), hm]
  refine br_c (fun q => ?_) (fun q => ?_)
  · rw [if_pos (zmk_2.mp q)] at k; exact k
  · rw [if_neg (fun z => q (zmk_2.mpr z))] at k; exact k
/-- the current point -/
def Zcu (ss cl : Nat → Int32) (pc : Nat) : Nat := if cl (Zft ss pc) = 0 then pc else Zft ss pc
theorem zcu_le {pc : Nat} : Zcu ss cl pc ≤ pc := by
  unfold Zcu
  split
  · omega
  · exact zft_le ss pc
theorem x_curPt {post : Int32 → Prop} {pc : Nat} (hP : ZPT (pc + 1) px py pm qx qy ss cl) (hc : pC = nI (pc + 1)) (k : post (nI (Zcu ss cl pc))) : wpX_currentPoint post (tc, ob, ps, su, ep, sd, bc, mA, mB, oX, oY, gY, wD, pC, sC, tk, tv, cb, sk, sv, vk, vv, bp, br, bh, bn, bs, bl, px, py, pm, cr, sn, sx, sy, sm, sp, dg) := by
  have h48 := hP.1
  refine br_f (by rw [hc]; exact nI_ne0 (by omega) (by omega)) (x_lastClosed hP hc ?_)
  unfold Zcu at k
  by_cases q : cl (Zft ss pc) = 0
  · rw [if_pos q] at k ⊢
    refine br_t rfl ?_
    rw [hc, nI_pred]
    exact k
  · rw [if_neg q] at k ⊢
    refine br_f (by decide) ?_
    unfold wX_currentPoint_14
    exact x_lastSub hP hc k
theorem zft_mid {r j : Nat} (h : Zft ss j = r) : ∀ k, r ≤ k → k ≤ j → Zft ss k = r := by
  intro k h1 h2
  induction j with
  | zero => rw [show k = 0 by omega]; exact h
  | succ j ih =>
    by_cases e : k = j + 1
    · rw [e]; exact h
    · by_cases q : ss (j + 1) = 0
      · rw [zft_0 q] at h; exact ih h (by omega)
      · rw [zft_s q] at h; omega
theorem x_close_l {post : SX → Prop} {pc : Nat} (h48 : pc ≤ 48) : ∀ (d k : Nat), k + d = pc → ∀ pm' : Nat → Int32, (∀ i, k ≤ i → pm' i = pm i) → post (tc, ob, ps, su, ep, sd, bc, mA, mB, oX, oY, gY, wD, nI pc, sC, tk, tv, cb, sk, sv, vk, vv, bp, br, bh, bn, bs, bl, px, py, zf pm' k pc (fun i => pm i ||| 2), cr, sn, sx, sy, sm, sp, dg) → wX_closePath_5 post tc ob ps su ep sd bc mA mB oX oY gY wD (nI pc) sC (d + 1) (nI k) tk tv cb sk sv vk vv bp br bh bn bs bl px py pm' cr sn sx sy sm sp dg := by
  intro d
  induction d with
  | zero =>
    intro k hk pm' he kk
    have : k = pc := by omega
    subst this
    rw [zf_z] at kk
    exact ql_t k k (by omega) kk
  | succ d ih =>
    intro k hk pm' he kk
    have e : (nI k).toNatClampNeg = k := zc_i (by omega)
    refine ql_f pc k (by omega) ⟨vp_in_nI (by omega) (by omega), vp_in_nI (by omega) (by omega), nm_r (show _ = upd pm' k (pm k ||| 2) by rw [e, he k (by omega)]) (nm_r (nI_1 k) (ih (k + 1) (by omega) _ (fun i hi => by rw [pk_un (by omega)]; exact he i (by omega)) ?_))⟩
    rw [zf_s (a := pm') (g := fun i => pm i ||| 2) (by omega)]
    exact kk
theorem zpt_close {pc : Nat} (hP : ZPT (pc + 1) px py pm qx qy ss cl) : ZPT (pc + 1) px py (zf pm (Zft ss pc) (pc + 1) (fun i => pm i ||| 2)) qx qy ss (upd cl (Zft ss pc) 1) := by
  obtain ⟨h1, h2, h3⟩ := hP
  refine ⟨h1, h2, fun k hk => ?_⟩
  obtain ⟨a1, a2, a3, a4, a5, a6, a7⟩ := h3 k hk
  have hl := zft_le ss k
  refine ⟨a1, a2, a3, ?_, ?_, a6, a7⟩
  · by_cases e : k = Zft ss pc
    · rw [← e, pk_us]; exact Or.inr rfl
    · rw [pk_un e]; exact a4
  · by_cases e : Zft ss pc ≤ k
    · rw [zf_in e hk, zft_mid rfl k e (by omega), pk_us, a5, zmk_or]
    · rw [zf_lo (by omega), pk_un (by omega)]; exact a5
/-- the reference's path with nothing planned -/
theorem zu_0 {pc : Nat} (hm : mn 0 = nI pc) : upd mn 0 (mn 0 - 0) = mn := zu_self (by rw [Int32.sub_zero])
theorem st_close {t h n a c s pc : Nat} {PX : Int32 → SX → Prop} (hR : ZR t h n a c mA mB oX oY gY wD pC tk tv cb sk sv vk vv bp br bh bn bs bl px py pm cr sn sx sy sm sp hw fr og lf st la fm fc gr wi mn qx qy ss cl cp) (ha : a < t) (hk : tk a = 1) (hv : tv a = nI 34) (hpc : pC = nI pc) (hp48 : pc ≤ 48) (hE : ZE1 34 h sk pc = 0)
    (H : ∀ (e : Int32) (u' : SX) (v' : SY), ZStep a (s + 1) e u' v' → (∀ PY : SY → Prop, PY v' → wpY_execute PY (nI t, 0, nI h, nI n, nI a, 0, -1, nI (s + 1), nI c, nw, gn, bg, wd, tk, tv, dg, sk, sv, vk, vv, hw, fr, og, lf, st, la, fm, fc, gr, wi, mn, qx, qy, ss, cl, cp, nx, ny)) → PX e u') : wpX_execute PX (nI t, 0, nI a, nI s, -1, nI h, nI n, mA, mB, oX, oY, gY, wD, pC, nI c, tk, tv, cb, sk, sv, vk, vv, bp, br, bh, bn, bs, bl, px, py, pm, cr, sn, sx, sy, sm, sp, dg) (nI a) := by
  have hR' := hR
  obtain ⟨hT, hS, hV, hF, hPO, hG, hSV⟩ := hR
  have ht := hT.1
  have hh := hS.1
  have hmn := zg_mn hG hpc
  have hi : vp_in (nI a) 100 := vp_in_nI (by omega) (by omega)
  have e : (nI a).toNatClampNeg = a := zc_i (by omega)
  have ek : tk (nI a).toNatClampNeg = 1 := by rw [e]; exact hk
  have ev : tv (nI a).toNatClampNeg = nI 34 := by rw [e]; exact hv
  have hpn := po_next hPO ha (by rw [hk]; decide) (by rw [hk]; decide)
  obtain ⟨z1, z2, z3, z4⟩ := ze_0 hE
  have z1 : 0 ≤ h := z1
  have hpc0 : 0 < pc := z3 (by decide) (by decide)
  obtain ⟨pc, rfl⟩ : ∃ p, pc = p + 1 := ⟨pc - 1, by omega⟩
  have hP := zg_pt hG hpc hp48
  have h0 := hP.2.1 (by omega)
  refine nm_r (nI_1 s) (nm_r (nI_1 a) ⟨hi, br_t ek ⟨hi, nm_r ev (x_oe0 (by decide) hh hp48 rfl hpc hE (br_t rfl (br_t (by decide) (br_f (by decide) (br_f (by decide) (br_f (by decide) (br_t (by decide) (br_f (by decide) (br_f (by decide) (br_f (by decide) (br_t (by decide) (?_))))))))))))⟩⟩)
  unfold wX_execute_139 wpX_changePath
  refine x_opDXA (j := 0) rfl rfl hh (by omega) (fun _ => x_opDYA (j := 0) rfl rfl hh (by omega) (fun _ => br_f (by decide) (br_f (by decide) (br_f (by decide) (br_f (by decide) (br_f (by decide) (br_f (by decide) (br_f (by decide) (br_f (by decide) (br_f (by decide) (br_t rfl (?_))))))))))))
  unfold wpX_closePath
  refine x_lastSub hP hpc ⟨pc + 1 - Zft ss pc + 1, ?_⟩
  rw [hpc]
  have hl := zft_le ss pc
  have hz : vp_in (nI (Zft ss pc)) 240 := vp_in_nI (by omega) (by omega)
  have hzc : (nI (Zft ss pc)).toNatClampNeg = Zft ss pc := zc_i (by omega)
  have hG2 : ZGS mA mB oX oY gY wD (nI (pc + 1)) px py (zf pm (Zft ss pc) (pc + 1) (fun i => pm i ||| 2)) cr fm (fc 0) (gr 0) (wi 0) (mn 0) qx qy ss (upd cl (Zft ss pc) 1) cp := by
    rw [hmn]
    exact zgs_path hG (zpt_close hP)
  refine x_close_l hp48 (pc + 1 - Zft ss pc) (Zft ss pc) (by omega) pm (fun _ _ => rfl) (x_153 (n := 0) (by decide) rfl z1 rfl (H 0 _ (nI t, 0, nI h, nI n, nI a + 1, 0, -1, nI (s + 1), nI c, 0, 0, 0, 0, tk, tv, dg, sk, sv, vk, vv, hw, fr, og, lf, st, la, fm, fc, gr, wi, mn, qx, qy, ss, upd cl (Zft ss pc) 1, cp, nx, ny) (zs_ok ⟨hT, hS, hV, hF, hpn, hG2, zsv_up hSV zr_i zr_i zr_i zr_i zr_i zr_i zr_i zr_i (fun i hi => pk_un (by omega)) zr_i⟩ rfl (nI_1 a) rfl rfl rfl rfl rfl rfl) (fun PY hp => ?_)))
  refine ⟨hi, nm_r ev ⟨hi, nm_r ek (br_f (by decide) (br_f (by decide) (br_f (by decide) (br_t rfl ?_))))⟩⟩
  unfold wY_execute_245 wpY_operate
  refine y_check (by decide) hh hp48 (zst_k hS) rfl hmn (fun z => absurd hE z) (fun _ z => absurd z (by decide)) (fun _ _ _ => y_ck87 rfl hh z1 hmn hp48 (by decide) (by decide) (by decide) (by decide) (by decide) (by decide) (by decide) (by decide) (by decide) (by decide) (by decide) (y_ck335n (by decide) (by decide) (by decide) (by decide) (by decide) (by decide) (br_t rfl ?_)))
  refine br_t (by decide) (br_t (by decide) (br_t (by decide) (br_t (by decide) (?_))))
  unfold wY_operate_71
  refine br_f (by decide) (nm_r (zu_0 hmn) ⟨1, br_t (by decide) (y_takes (by decide) (nm_r (pk_sub (b := 0) z1) (br_t rfl ?_)))⟩)
  unfold wY_path_138
  exact y_fol h0 hmn (by omega) ⟨hz, nm_r (show _ = upd cl (Zft ss pc) 1 by rw [hzc]; rfl) (br_f (by decide) (nm_e hp))⟩
theorem zsg {a b ox oy F : Int32} {f : Nat → Int32} (hg : ZGR a b ox oy f F) : ∃ sa sb : Int32, (∀ post : Int32 → Prop, post sa → wpX_signOf post a) ∧ (∀ post : Int32 → Prop, post sb → wpX_signOf post b) ∧ F ≠ 0 ∧ f 0 / F = sa ∧ f 1 / F = -sb ∧ f 3 / F = sb ∧ f 4 / F = sa := by
  obtain ⟨g0, g1, g2, g3, g4, g5, g6, g7, n, h1, h2, rfl, hc⟩ := hg
  have k0 : ∀ post : Int32 → Prop, post 0 → wpX_signOf post 0 := fun post k => br_t rfl k
  have k1 : ∀ post : Int32 → Prop, post 1 → wpX_signOf post (nI n) := fun post k => br_f (nI_ne0 (by omega) (by omega)) (br_t (nI_pos' (by omega)) k)
  have kn : -nI n ≠ 0 := fun z => by
    have := congrArg Int32.toInt z
    rw [zneg_le h2, z32_0] at this
    omega
  have k2 : ∀ post : Int32 → Prop, post (-1) → wpX_signOf post (-nI n) := fun post k => br_f kn (br_f (by rw [zt_le, zneg_le h2, z32_0]; omega) k)
  have d1 : nI n / nI n = 1 := (by decide +kernel : ∀ n, n < 65 → 1 ≤ n → nI n / nI n = 1) n (by omega) h1
  have d0 : (0 : Int32) / nI n = 0 := (by decide +kernel : ∀ n, n < 65 → 1 ≤ n → (0 : Int32) / nI n = 0) n (by omega) h1
  have d2 : -nI n / nI n = -1 := (by decide +kernel : ∀ n, n < 65 → 1 ≤ n → -nI n / nI n = -1) n (by omega) h1
  have hne : nI n ≠ 0 := nI_ne0 (by omega) (by omega)
  rw [g0, g1, g3, g4]
  rcases hc with ⟨rfl, rfl⟩ | ⟨rfl, rfl⟩ | ⟨rfl, rfl⟩ | ⟨rfl, rfl⟩
  · exact ⟨1, 0, k1, k0, hne, d1, d0, d0, d1⟩
  · exact ⟨0, 1, k0, k1, hne, d0, d2, d1, d0⟩
  · exact ⟨-1, 0, k2, k0, hne, d2, d0, d0, d2⟩
  · exact ⟨0, -1, k0, k2, hne, d0, by rw [Int32.neg_neg]; exact d1, d2, d0⟩
def zfd (x f : Int32) : Int32 := if 0 ≤ x - x / f * f then x / f else x / f - 1
theorem x_divF {post : Int32 → Prop} {x F : Int32} {f : Nat → Int32} (hg : ZGR mA mB oX oY f F) (hF : F ≠ 0) (k : post (zfd x F)) : wpX_dividedByFactor post (tc, ob, ps, su, ep, sd, bc, mA, mB, oX, oY, gY, wD, pC, sC, tk, tv, cb, sk, sv, vk, vv, bp, br, bh, bn, bs, bl, px, py, pm, cr, sn, sx, sy, sm, sp, dg) x := by
  unfold wpX_dividedByFactor
  exact x_factor hg (br_f hF ⟨hF, nm_e ⟨hF, (zh post _ _ _).mpr k⟩⟩)
theorem y_floored {post : Int32 → Prop} {x F : Int32} (hF : F ≠ 0) (k : post (zfd x F)) : wpY_floored post x F := by
  unfold zfd at k
  refine ⟨hF, br_c (fun q => ⟨hF, ?_⟩) (fun q => ⟨hF, ?_⟩)⟩
  · rw [if_pos q] at k; exact k
  · rw [if_neg q] at k; exact k
theorem st_point {t h n a c s pc : Nat} {PX : Int32 → SX → Prop} (hR : ZR t h n a c mA mB oX oY gY wD pC tk tv cb sk sv vk vv bp br bh bn bs bl px py pm cr sn sx sy sm sp hw fr og lf st la fm fc gr wi mn qx qy ss cl cp) (ha : a < t) (hk : tk a = 1) (hv : tv a = nI 35) (hpc : pC = nI pc) (hp48 : pc ≤ 48) (hE : ZE1 35 h sk pc = 0)
    (H : ∀ (e : Int32) (u' : SX) (v' : SY), ZStep a (s + 1) e u' v' → (∀ PY : SY → Prop, PY v' → wpY_execute PY (nI t, 0, nI h, nI n, nI a, 0, -1, nI (s + 1), nI c, nw, gn, bg, wd, tk, tv, dg, sk, sv, vk, vv, hw, fr, og, lf, st, la, fm, fc, gr, wi, mn, qx, qy, ss, cl, cp, nx, ny)) → PX e u') : wpX_execute PX (nI t, 0, nI a, nI s, -1, nI h, nI n, mA, mB, oX, oY, gY, wD, pC, nI c, tk, tv, cb, sk, sv, vk, vv, bp, br, bh, bn, bs, bl, px, py, pm, cr, sn, sx, sy, sm, sp, dg) (nI a) := by
  have hR' := hR
  obtain ⟨hT, hS, hV, hF, hPO, hG, hSV⟩ := hR
  have ht := hT.1
  have hh := hS.1
  have hmn := zg_mn hG hpc
  have hi : vp_in (nI a) 100 := vp_in_nI (by omega) (by omega)
  have e : (nI a).toNatClampNeg = a := zc_i (by omega)
  have ek : tk (nI a).toNatClampNeg = 1 := by rw [e]; exact hk
  have ev : tv (nI a).toNatClampNeg = nI 35 := by rw [e]; exact hv
  have hpn := po_next hPO ha (by rw [hk]; decide) (by rw [hk]; decide)
  obtain ⟨z1, z2, z3, z4⟩ := ze_0 hE
  have z1 : 0 ≤ h := z1
  have hpc0 : 0 < pc := z3 (by decide) (by decide)
  have z4 : h - 0 + 2 ≤ 24 := z4
  obtain ⟨pc, rfl⟩ : ∃ p, pc = p + 1 := ⟨pc - 1, by omega⟩
  have hP := zg_pt hG hpc hp48
  have h0 := hP.2.1 (by omega)
  have hl := zft_le ss pc
  have hcu : Zcu ss cl pc ≤ pc := zcu_le
  obtain ⟨sa, sb, ksa, ksb, hF0, d0, d1, d3, d4⟩ := zsg hG.1
  refine nm_r (nI_1 s) (nm_r (nI_1 a) ⟨hi, br_t ek ⟨hi, nm_r ev (x_oe0 (by decide) hh hp48 rfl hpc hE (br_t rfl (br_t (by decide) (br_f (by decide) (br_t rfl (?_))))))⟩⟩)
  unfold wX_execute_82 wpX_rearrange
  refine br_f (by decide) (br_f (by decide) (br_f (by decide) (br_f (by decide) (br_f (by decide) (br_f (by decide) (br_t rfl (?_)))))))
  unfold wpX_putCurrentPoint
  have ec : (nI (Zcu ss cl pc)).toNatClampNeg = Zcu ss cl pc := zc_i (by omega)
  have ic : vp_in (nI (Zcu ss cl pc)) 48 := vp_in_nI (by omega) (by omega)
  have ic2 : vp_in (nI (Zcu ss cl pc)) 240 := vp_in_nI (by omega) (by omega)
  obtain ⟨p1, p2, _⟩ := hP.2.2 (Zcu ss cl pc) (by omega)
  refine x_curPt hP hpc ⟨ic, nm_r (show _ = px (Zcu ss cl pc) - oX by rw [ec]) ⟨ic, nm_r (show _ = py (Zcu ss cl pc) - oY by rw [ec]) (ksa _ (ksb _ (x_divF hG.1 hF0 (x_divF hG.1 hF0 (x_put rfl (by omega) (x_put rfl (by omega) ?_))))))⟩⟩
  refine H 0 _ (nI t, 0, nI (h + 1 + 1), nI n, nI a + 1, 0, -1, nI (s + 1), nI c, 0, 0, 0, 0, tk, tv, dg, upd (upd sk h 0) (h + 1) 0, upd (upd sv h (zfd (sa * (px (Zcu ss cl pc) - oX) + sb * (py (Zcu ss cl pc) - oY)) (fc 0))) (h + 1) (zfd (sa * (py (Zcu ss cl pc) - oY) - sb * (px (Zcu ss cl pc) - oX)) (fc 0)), vk, vv, hw, fr, og, lf, st, la, fm, fc, gr, wi, mn, qx, qy, ss, cl, cp, nx, ny) (zs_ok ⟨hT, zst_put (zst_put hS (by omega) zv_0) (by omega) zv_0, hV, hF, hpn, hG, hSV⟩ rfl (nI_1 a) rfl rfl rfl rfl rfl rfl) (fun PY hp => ?_)
  refine ⟨hi, nm_r ev ⟨hi, nm_r ek (br_f (by decide) (br_f (by decide) (br_f (by decide) (br_t rfl ?_))))⟩⟩
  unfold wY_execute_245 wpY_operate
  refine y_check (by decide) hh hp48 (zst_k hS) rfl hmn (fun z => absurd hE z) (fun _ z => absurd z (by decide)) (fun _ _ _ => y_ck87 rfl hh z1 hmn hp48 (by decide) (by decide) (by decide) (by decide) (by decide) (by decide) (by decide) (by decide) (by decide) (by decide) (by decide) (y_ck335n (by decide) (by decide) (by decide) (by decide) (by decide) (by decide) (br_t rfl ?_)))
  refine br_t (by decide) (br_t (by decide) (br_t (by decide) (br_t (by decide) (?_))))
  unfold wY_operate_71
  refine br_f (by decide) (nm_r (zu_0 hmn) ⟨1, br_t (by decide) (y_takes (by decide) (nm_r (pk_sub (b := 0) z1) (br_f (by decide) (br_f (by decide) (br_t rfl ?_)))))⟩)
  unfold wpY_undo
  have go : wY_undo_26 (fun u => match u with | (yt₁, yo₁, yh₁, yi₁, ya₁, ye₁, yp₁, ys₁, yc₁, nw₁, gn₁, bg₁, wd₁, tk₁, tv₁, dg₁, sk₁, sv₁, vk₁, vv₁, hw₁, fr₁, og₁, lf₁, st₁, la₁, fm₁, fc₁, gr₁, wi₁, mn₁, qx₁, qy₁, ss₁, cl₁, cp₁, nx₁, ny₁) => ∀ w : Int32, w = ya₁ + 1 → PY (yt₁, yo₁, yh₁, yi₁, w, ye₁, yp₁, ys₁, yc₁, nw₁, gn₁, bg₁, wd₁, tk₁, tv₁, dg₁, sk₁, sv₁, vk₁, vv₁, hw₁, fr₁, og₁, lf₁, st₁, la₁, fm₁, fc₁, gr₁, wi₁, mn₁, qx₁, qy₁, ss₁, cl₁, cp₁, nx₁, ny₁)) (nI (Zcu ss cl pc)) (nI t) 0 (nI h) (nI n) (nI a) 0 (-1) (nI (s + 1)) (nI c) 0 0 0 0 tk tv dg sk sv vk vv hw fr og lf st la fm fc gr wi mn qx qy ss cl cp nx ny := by
    refine nm_e ⟨ic2, nm_r (show _ = px (Zcu ss cl pc) - oX by rw [ec, p1, hG.1.2.2.1]) ⟨ic2, nm_r (show _ = py (Zcu ss cl pc) - oY by rw [ec, p2, hG.1.2.2.2.2.2.1]) ⟨hF0, hF0, nm_r (show _ = sa * (px (Zcu ss cl pc) - oX) + sb * (py (Zcu ss cl pc) - oY) by rw [d0, d3]) ⟨hF0, hF0, nm_r (show _ = sa * (py (Zcu ss cl pc) - oY) - sb * (px (Zcu ss cl pc) - oX) by rw [d1, d4]; grind) (y_floored hF0 (y_floored hF0 (y_put rfl (by omega) (y_put rfl (by omega) (nm_e hp)))))⟩⟩⟩⟩
  refine y_fol h0 hmn (by omega) ⟨vp_in_nI (by omega) (by omega), ?_⟩
  rw [zc_i (n := Zft ss pc) (by omega)]
  unfold Zcu at go
  refine br_c (fun q => ?_) (fun q => ?_)
  · rw [if_pos q] at go
    rw [hmn, nI_pred]
    exact go
  · rw [if_neg q] at go
    exact go
end
