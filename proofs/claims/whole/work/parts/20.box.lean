section
variable {tc ob ps su ep sd bc mA mB oX oY gY wD pC sC yt yo yh yi ya ye yp ys yc nw gn bg wd : Int32} {tk tv cb sk sv vk vv bp br bh bn bs bl px py pm cr sn sx sy sm sp dg hw fr og lf st la fm fc gr wi mn qx qy ss cl cp nx ny : Nat → Int32}
def zbx (k : Nat) (x w : Int64) : Int64 := if k = 1 ∨ k = 2 then x + w else x
def zby (k : Nat) (y w : Int64) : Int64 := if 2 ≤ k then y + w else y
theorem x_boxX {post : Int64 → Prop} {h k : Nat} (hs : sd = nI h) (hh : h ≤ 24) (h4 : 4 ≤ h) (hk : k < 4) (kk : post (zbx k (sv (h - 1 - 3)).toInt64 (sv (h - 1 - 1)).toInt64)) : wpX_boxX post (tc, ob, ps, su, ep, sd, bc, mA, mB, oX, oY, gY, wD, pC, sC, tk, tv, cb, sk, sv, vk, vv, bp, br, bh, bn, bs, bl, px, py, pm, cr, sn, sx, sy, sm, sp, dg) (nI k) := by
  unfold wpX_boxX wX_boxX_17
  unfold zbx at kk
  refine x_operand (j := 3) hs rfl hh (by omega) (pk_eq k 1 (fun e => x_operand (j := 1) hs rfl hh (by omega) ?_) (fun e => pk_eq k 2 (fun e2 => x_operand (j := 1) hs rfl hh (by omega) ?_) (fun e2 => ?_)))
  · rw [if_pos (Or.inl e)] at kk; exact kk
  · rw [if_pos (Or.inr e2)] at kk; exact kk
  · rw [if_neg (fun z => z.elim e e2)] at kk; exact kk
theorem x_boxY {post : Int64 → Prop} {h k : Nat} (hs : sd = nI h) (hh : h ≤ 24) (h4 : 4 ≤ h) (hk : k < 4) (kk : post (zby k (sv (h - 1 - 2)).toInt64 (sv (h - 1 - 0)).toInt64)) : wpX_boxY post (tc, ob, ps, su, ep, sd, bc, mA, mB, oX, oY, gY, wD, pC, sC, tk, tv, cb, sk, sv, vk, vv, bp, br, bh, bn, bs, bl, px, py, pm, cr, sn, sx, sy, sm, sp, dg) (nI k) := by
  unfold wpX_boxY
  unfold zby at kk
  refine x_operand (j := 2) hs rfl hh (by omega) (pk_lt k 2 (fun e => ?_) (fun e => x_operand (j := 0) hs rfl hh (by omega) ?_))
  · rw [if_neg (by omega)] at kk; exact kk
  · rw [if_pos e] at kk; exact kk
theorem x_box63 {post : Int32 → SX → Prop} {h : Nat} (hs : sd = nI h) (hh : h ≤ 24) (h4 : 4 ≤ h) (K : post 0 (tc, ob, ps, su, ep, sd, bc, mA, mB, oX, oY, gY, wD, nI 4, sC, tk, tv, cb, sk, sv, vk, vv, bp, br, bh, bn, bs, bl, zf px 0 4 (fun i => (ZDX mA mB oX (zbx i (sv (h - 1 - 3)).toInt64 (sv (h - 1 - 1)).toInt64) (zby i (sv (h - 1 - 2)).toInt64 (sv (h - 1 - 0)).toInt64)).toInt32), zf py 0 4 (fun i => (ZDX mA mB oY (zby i (sv (h - 1 - 2)).toInt64 (sv (h - 1 - 0)).toInt64) (-(zbx i (sv (h - 1 - 3)).toInt64 (sv (h - 1 - 1)).toInt64))).toInt32), zf pm 0 4 (fun i => if i = 0 then 3 else 2), cr, sn, sx, sy, sm, sp, dg)) :
    ∀ d k, k + d = 4 → wX_drawBox_63 post (d + 1) (nI k) tc ob ps su ep sd bc mA mB oX oY gY wD (nI k) sC tk tv cb sk sv vk vv bp br bh bn bs bl (zf px 0 k (fun i => (ZDX mA mB oX (zbx i (sv (h - 1 - 3)).toInt64 (sv (h - 1 - 1)).toInt64) (zby i (sv (h - 1 - 2)).toInt64 (sv (h - 1 - 0)).toInt64)).toInt32)) (zf py 0 k (fun i => (ZDX mA mB oY (zby i (sv (h - 1 - 2)).toInt64 (sv (h - 1 - 0)).toInt64) (-(zbx i (sv (h - 1 - 3)).toInt64 (sv (h - 1 - 1)).toInt64))).toInt32)) (zf pm 0 k (fun i => if i = 0 then 3 else 2)) cr sn sx sy sm sp dg := by
  intro d
  induction d with
  | zero =>
    intro k hk
    have : k = 4 := by omega
    subst this
    exact ql_t 4 4 (by omega) K
  | succ d ih =>
    intro k hk
    have go : ∀ z : Int32, z = (if k = 0 then 3 else 2) → wX_drawBox_113 post (wX_drawBox_63 post (d + 1)) (nI k) z (ZDX mA mB oY (zby k (sv (h - 1 - 2)).toInt64 (sv (h - 1 - 0)).toInt64) (-(zbx k (sv (h - 1 - 3)).toInt64 (sv (h - 1 - 1)).toInt64))) (ZDX mA mB oX (zbx k (sv (h - 1 - 3)).toInt64 (sv (h - 1 - 1)).toInt64) (zby k (sv (h - 1 - 2)).toInt64 (sv (h - 1 - 0)).toInt64)) tc ob ps su ep sd bc mA mB oX oY gY wD (nI k) sC tk tv cb sk sv vk vv bp br bh bn bs bl (zf px 0 k (fun i => (ZDX mA mB oX (zbx i (sv (h - 1 - 3)).toInt64 (sv (h - 1 - 1)).toInt64) (zby i (sv (h - 1 - 2)).toInt64 (sv (h - 1 - 0)).toInt64)).toInt32)) (zf py 0 k (fun i => (ZDX mA mB oY (zby i (sv (h - 1 - 2)).toInt64 (sv (h - 1 - 0)).toInt64) (-(zbx i (sv (h - 1 - 3)).toInt64 (sv (h - 1 - 1)).toInt64))).toInt32)) (zf pm 0 k (fun i => if i = 0 then 3 else 2)) cr sn sx sy sm sp dg := by
      intro z hz
      unfold wX_drawBox_113
      refine x_append rfl (by omega) (nm_r (nI_1 k) ?_)
      have s1 := zf_e (a := px) (j := 0) (e := k) (g := (fun i => (ZDX mA mB oX (zbx i (sv (h - 1 - 3)).toInt64 (sv (h - 1 - 1)).toInt64) (zby i (sv (h - 1 - 2)).toInt64 (sv (h - 1 - 0)).toInt64)).toInt32)) (by omega)
      have s2 := zf_e (a := py) (j := 0) (e := k) (g := (fun i => (ZDX mA mB oY (zby i (sv (h - 1 - 2)).toInt64 (sv (h - 1 - 0)).toInt64) (-(zbx i (sv (h - 1 - 3)).toInt64 (sv (h - 1 - 1)).toInt64))).toInt32)) (by omega)
      have s3 := zf_e (a := pm) (j := 0) (e := k) (g := fun i => if i = 0 then 3 else 2) (by omega)
      rw [hz, s1, s2, s3]
      exact ih (k + 1) (by omega)
    refine ql_f 4 k (by omega) (x_boxX hs hh h4 (by omega) (x_boxY hs hh h4 (by omega) (x_deviceX (x_deviceY (pk_eq k 0 (fun e => go 3 ?_) (fun e => go 2 ?_))))))
    · rw [if_pos e]
    · rw [if_neg e]
theorem x_box2 {post : Int32 → SX → Prop} {h : Nat} (hs : sd = nI h) (hh : h ≤ 24) (h4 : 4 ≤ h) (hz : ∀ j, j < 4 → zof (ZDX mA mB oX (zbx j (sv (h - 1 - 3)).toInt64 (sv (h - 1 - 1)).toInt64) (zby j (sv (h - 1 - 2)).toInt64 (sv (h - 1 - 0)).toInt64)) (ZDX mA mB oY (zby j (sv (h - 1 - 2)).toInt64 (sv (h - 1 - 0)).toInt64) (-(zbx j (sv (h - 1 - 3)).toInt64 (sv (h - 1 - 1)).toInt64))) = 0) (K : post 0 (tc, ob, ps, su, ep, sd, bc, mA, mB, oX, oY, gY, wD, nI 4, sC, tk, tv, cb, sk, sv, vk, vv, bp, br, bh, bn, bs, bl, zf px 0 4 (fun i => (ZDX mA mB oX (zbx i (sv (h - 1 - 3)).toInt64 (sv (h - 1 - 1)).toInt64) (zby i (sv (h - 1 - 2)).toInt64 (sv (h - 1 - 0)).toInt64)).toInt32), zf py 0 4 (fun i => (ZDX mA mB oY (zby i (sv (h - 1 - 2)).toInt64 (sv (h - 1 - 0)).toInt64) (-(zbx i (sv (h - 1 - 3)).toInt64 (sv (h - 1 - 1)).toInt64))).toInt32), zf pm 0 4 (fun i => if i = 0 then 3 else 2), cr, sn, sx, sy, sm, sp, dg)) :
    ∀ d k, k + d = 4 → wX_drawBox_2 post tc ob ps su ep sd bc mA mB oX oY gY wD pC sC tk tv cb sk sv vk vv bp br bh bn bs bl px py pm cr sn sx sy sm sp dg (d + 1) (nI k) := by
  intro d
  induction d with
  | zero =>
    intro k hk
    have L := x_box63 (post := post) hs hh h4 K 4 0 rfl
    rw [zf_z, zf_z, zf_z] at L
    exact ql_t 4 k (by omega) ⟨5, L⟩
  | succ d ih =>
    intro k hk
    exact ql_f 4 k (by omega) (x_boxX hs hh h4 (by omega) (x_boxY hs hh h4 (by omega) (x_deviceX (x_deviceY (x_off (br_t (hz k (by omega)) (nm_r (nI_1 k) (ih (k + 1) (by omega)))))))))
theorem x_box2e {post : Int32 → SX → Prop} {h : Nat} (hs : sd = nI h) (hh : h ≤ 24) (h4 : 4 ≤ h) (K : post 5 (tc, ob, ps, su, ep, sd, bc, mA, mB, oX, oY, gY, wD, pC, sC, tk, tv, cb, sk, sv, vk, vv, bp, br, bh, bn, bs, bl, px, py, pm, cr, sn, sx, sy, sm, sp, dg)) :
    ∀ d k, k + d = 4 → (∃ j, k ≤ j ∧ j < 4 ∧ zof (ZDX mA mB oX (zbx j (sv (h - 1 - 3)).toInt64 (sv (h - 1 - 1)).toInt64) (zby j (sv (h - 1 - 2)).toInt64 (sv (h - 1 - 0)).toInt64)) (ZDX mA mB oY (zby j (sv (h - 1 - 2)).toInt64 (sv (h - 1 - 0)).toInt64) (-(zbx j (sv (h - 1 - 3)).toInt64 (sv (h - 1 - 1)).toInt64))) ≠ 0) → wX_drawBox_2 post tc ob ps su ep sd bc mA mB oX oY gY wD pC sC tk tv cb sk sv vk vv bp br bh bn bs bl px py pm cr sn sx sy sm sp dg (d + 1) (nI k) := by
  intro d
  induction d with
  | zero =>
    intro k hk hj
    obtain ⟨j, h1, h2, _⟩ := hj
    omega
  | succ d ih =>
    intro k hk hj
    refine ql_f 4 k (by omega) (x_boxX hs hh h4 (by omega) (x_boxY hs hh h4 (by omega) (x_deviceX (x_deviceY (x_off (br_c (fun e => nm_r (nI_1 k) (ih (k + 1) (by omega) ?_)) (fun e => K)))))))
    obtain ⟨j, h1, h2, h3⟩ := hj
    refine ⟨j, ?_, h2, h3⟩
    by_cases ej : j = k
    · rw [ej] at h3; exact absurd e h3
    · omega
theorem zor_4 {a b c d : Int32} (ha : a = 0 ∨ a = 1) (hb : b = 0 ∨ b = 1) (hc : c = 0 ∨ c = 1) (hd : d = 0 ∨ d = 1) : (((0 ||| a) ||| b) ||| c) ||| d = 0 ↔ a = 0 ∧ b = 0 ∧ c = 0 ∧ d = 0 := by
  rcases ha with rfl | rfl <;> rcases hb with rfl | rfl <;> rcases hc with rfl | rfl <;> rcases hd with rfl | rfl <;> decide
theorem zor_b {a b : Int32} (ha : a = 0 ∨ a = 1) (hb : b = 0 ∨ b = 1) : (a ||| b) = 0 ∨ (a ||| b) = 1 := by
  rcases ha with rfl | rfl <;> rcases hb with rfl | rfl <;> decide
theorem st_box {t h n a c s pc : Nat} {PX : Int32 → SX → Prop} (hR : ZR t h n a c mA mB oX oY gY wD pC tk tv cb sk sv vk vv bp br bh bn bs bl px py pm cr sn sx sy sm sp hw fr og lf st la fm fc gr wi mn qx qy ss cl cp) (ha : a < t) (hk : tk a = 1) (hv : tv a = nI 44) (hpc : pC = nI pc) (hp48 : pc ≤ 48) (hE : ZE1 44 h sk pc = 0)
    (H : ∀ (e : Int32) (u' : SX) (v' : SY), ZStep a (s + 1) e u' v' → (∀ PY : SY → Prop, PY v' → wpY_execute PY (nI t, 0, nI h, nI n, nI a, 0, -1, nI (s + 1), nI c, nw, gn, bg, wd, tk, tv, dg, sk, sv, vk, vv, hw, fr, og, lf, st, la, fm, fc, gr, wi, mn, qx, qy, ss, cl, cp, nx, ny)) → PX e u') : wpX_execute PX (nI t, 0, nI a, nI s, -1, nI h, nI n, mA, mB, oX, oY, gY, wD, pC, nI c, tk, tv, cb, sk, sv, vk, vv, bp, br, bh, bn, bs, bl, px, py, pm, cr, sn, sx, sy, sm, sp, dg) (nI a) := by
  have hR' := hR
  obtain ⟨hT, hS, hV, hF, hPO, hG, hSV⟩ := hR
  have ht := hT.1
  have hh := hS.1
  have hmn := zg_mn hG hpc
  have hi : vp_in (nI a) 100 := vp_in_nI (by omega) (by omega)
  have e : (nI a).toNatClampNeg = a := zc_i (by omega)
  have ek : tk (nI a).toNatClampNeg = 1 := by rw [e]; exact hk
  have ev : tv (nI a).toNatClampNeg = nI 44 := by rw [e]; exact hv
  have hpn := po_next hPO ha (by rw [hk]; decide) (by rw [hk]; decide)
  obtain ⟨z1, z2, z3, z4⟩ := ze_0 hE
  have z1 : 4 ≤ h := z1
  have z01 : ∀ k, zof (ZDX mA mB oX (zbx k (sv (h - 1 - 3)).toInt64 (sv (h - 1 - 1)).toInt64) (zby k (sv (h - 1 - 2)).toInt64 (sv (h - 1 - 0)).toInt64)) (ZDX mA mB oY (zby k (sv (h - 1 - 2)).toInt64 (sv (h - 1 - 0)).toInt64) (-(zbx k (sv (h - 1 - 3)).toInt64 (sv (h - 1 - 1)).toInt64))) = 0 ∨ zof (ZDX mA mB oX (zbx k (sv (h - 1 - 3)).toInt64 (sv (h - 1 - 1)).toInt64) (zby k (sv (h - 1 - 2)).toInt64 (sv (h - 1 - 0)).toInt64)) (ZDX mA mB oY (zby k (sv (h - 1 - 2)).toInt64 (sv (h - 1 - 0)).toInt64) (-(zbx k (sv (h - 1 - 3)).toInt64 (sv (h - 1 - 1)).toInt64))) = 1 := fun k => zof_01 _ _
  have hall : ((((0 ||| zof (ZDX mA mB oX (zbx 0 (sv (h - 1 - 3)).toInt64 (sv (h - 1 - 1)).toInt64) (zby 0 (sv (h - 1 - 2)).toInt64 (sv (h - 1 - 0)).toInt64)) (ZDX mA mB oY (zby 0 (sv (h - 1 - 2)).toInt64 (sv (h - 1 - 0)).toInt64) (-(zbx 0 (sv (h - 1 - 3)).toInt64 (sv (h - 1 - 1)).toInt64)))) ||| zof (ZDX mA mB oX (zbx 1 (sv (h - 1 - 3)).toInt64 (sv (h - 1 - 1)).toInt64) (zby 1 (sv (h - 1 - 2)).toInt64 (sv (h - 1 - 0)).toInt64)) (ZDX mA mB oY (zby 1 (sv (h - 1 - 2)).toInt64 (sv (h - 1 - 0)).toInt64) (-(zbx 1 (sv (h - 1 - 3)).toInt64 (sv (h - 1 - 1)).toInt64)))) ||| zof (ZDX mA mB oX (zbx 2 (sv (h - 1 - 3)).toInt64 (sv (h - 1 - 1)).toInt64) (zby 2 (sv (h - 1 - 2)).toInt64 (sv (h - 1 - 0)).toInt64)) (ZDX mA mB oY (zby 2 (sv (h - 1 - 2)).toInt64 (sv (h - 1 - 0)).toInt64) (-(zbx 2 (sv (h - 1 - 3)).toInt64 (sv (h - 1 - 1)).toInt64)))) ||| zof (ZDX mA mB oX (zbx 3 (sv (h - 1 - 3)).toInt64 (sv (h - 1 - 1)).toInt64) (zby 3 (sv (h - 1 - 2)).toInt64 (sv (h - 1 - 0)).toInt64)) (ZDX mA mB oY (zby 3 (sv (h - 1 - 2)).toInt64 (sv (h - 1 - 0)).toInt64) (-(zbx 3 (sv (h - 1 - 3)).toInt64 (sv (h - 1 - 1)).toInt64)))) = 0 ↔ ∀ j, j < 4 → zof (ZDX mA mB oX (zbx j (sv (h - 1 - 3)).toInt64 (sv (h - 1 - 1)).toInt64) (zby j (sv (h - 1 - 2)).toInt64 (sv (h - 1 - 0)).toInt64)) (ZDX mA mB oY (zby j (sv (h - 1 - 2)).toInt64 (sv (h - 1 - 0)).toInt64) (-(zbx j (sv (h - 1 - 3)).toInt64 (sv (h - 1 - 1)).toInt64))) = 0 := by
    rw [zor_4 (z01 0) (z01 1) (z01 2) (z01 3)]
    refine ⟨fun z j hj => ?_, fun z => ⟨z 0 (by omega), z 1 (by omega), z 2 (by omega), z 3 (by omega)⟩⟩
    have hj4 : j = 0 ∨ j = 1 ∨ j = 2 ∨ j = 3 := by omega
    rcases hj4 with rfl | rfl | rfl | rfl
    · exact z.1
    · exact z.2.1
    · exact z.2.2.1
    · exact z.2.2.2
  have hYp : ∀ Q : Int32 → SY → Prop, wY_check_129 Q (nI 44) (nI 4) (nI t) 0 (nI h) (nI n) (nI a) 0 (-1) (nI (s + 1)) (nI c) (nI (3 + 1)) (mn 0) 1 ((((0 ||| zof (ZDX mA mB oX (zbx 0 (sv (h - 1 - 3)).toInt64 (sv (h - 1 - 1)).toInt64) (zby 0 (sv (h - 1 - 2)).toInt64 (sv (h - 1 - 0)).toInt64)) (ZDX mA mB oY (zby 0 (sv (h - 1 - 2)).toInt64 (sv (h - 1 - 0)).toInt64) (-(zbx 0 (sv (h - 1 - 3)).toInt64 (sv (h - 1 - 1)).toInt64)))) ||| zof (ZDX mA mB oX (zbx 1 (sv (h - 1 - 3)).toInt64 (sv (h - 1 - 1)).toInt64) (zby 1 (sv (h - 1 - 2)).toInt64 (sv (h - 1 - 0)).toInt64)) (ZDX mA mB oY (zby 1 (sv (h - 1 - 2)).toInt64 (sv (h - 1 - 0)).toInt64) (-(zbx 1 (sv (h - 1 - 3)).toInt64 (sv (h - 1 - 1)).toInt64)))) ||| zof (ZDX mA mB oX (zbx 2 (sv (h - 1 - 3)).toInt64 (sv (h - 1 - 1)).toInt64) (zby 2 (sv (h - 1 - 2)).toInt64 (sv (h - 1 - 0)).toInt64)) (ZDX mA mB oY (zby 2 (sv (h - 1 - 2)).toInt64 (sv (h - 1 - 0)).toInt64) (-(zbx 2 (sv (h - 1 - 3)).toInt64 (sv (h - 1 - 1)).toInt64)))) ||| zof (ZDX mA mB oX (zbx 3 (sv (h - 1 - 3)).toInt64 (sv (h - 1 - 1)).toInt64) (zby 3 (sv (h - 1 - 2)).toInt64 (sv (h - 1 - 0)).toInt64)) (ZDX mA mB oY (zby 3 (sv (h - 1 - 2)).toInt64 (sv (h - 1 - 0)).toInt64) (-(zbx 3 (sv (h - 1 - 3)).toInt64 (sv (h - 1 - 1)).toInt64)))) tk tv dg sk sv vk vv hw fr og lf st la fm fc gr wi mn qx qy ss cl cp (upd (upd (upd (upd nx 0 (ZDX mA mB oX (zbx 0 (sv (h - 1 - 3)).toInt64 (sv (h - 1 - 1)).toInt64) (zby 0 (sv (h - 1 - 2)).toInt64 (sv (h - 1 - 0)).toInt64)).toInt32) 1 (ZDX mA mB oX (zbx 1 (sv (h - 1 - 3)).toInt64 (sv (h - 1 - 1)).toInt64) (zby 1 (sv (h - 1 - 2)).toInt64 (sv (h - 1 - 0)).toInt64)).toInt32) 2 (ZDX mA mB oX (zbx 2 (sv (h - 1 - 3)).toInt64 (sv (h - 1 - 1)).toInt64) (zby 2 (sv (h - 1 - 2)).toInt64 (sv (h - 1 - 0)).toInt64)).toInt32) 3 (ZDX mA mB oX (zbx 3 (sv (h - 1 - 3)).toInt64 (sv (h - 1 - 1)).toInt64) (zby 3 (sv (h - 1 - 2)).toInt64 (sv (h - 1 - 0)).toInt64)).toInt32) (upd (upd (upd (upd ny 0 (ZDX mA mB oY (zby 0 (sv (h - 1 - 2)).toInt64 (sv (h - 1 - 0)).toInt64) (-(zbx 0 (sv (h - 1 - 3)).toInt64 (sv (h - 1 - 1)).toInt64))).toInt32) 1 (ZDX mA mB oY (zby 1 (sv (h - 1 - 2)).toInt64 (sv (h - 1 - 0)).toInt64) (-(zbx 1 (sv (h - 1 - 3)).toInt64 (sv (h - 1 - 1)).toInt64))).toInt32) 2 (ZDX mA mB oY (zby 2 (sv (h - 1 - 2)).toInt64 (sv (h - 1 - 0)).toInt64) (-(zbx 2 (sv (h - 1 - 3)).toInt64 (sv (h - 1 - 1)).toInt64))).toInt32) 3 (ZDX mA mB oY (zby 3 (sv (h - 1 - 2)).toInt64 (sv (h - 1 - 0)).toInt64) (-(zbx 3 (sv (h - 1 - 3)).toInt64 (sv (h - 1 - 1)).toInt64))).toInt32) → wY_check_87 Q (nI 44) (nI (ztk 44)) (nI t) 0 (nI h) (nI n) (nI a) 0 (-1) (nI (s + 1)) (nI c) nw gn bg wd tk tv dg sk sv vk vv hw fr og lf st la fm fc gr wi mn qx qy ss cl cp nx ny := by
    intro Q k
    have g0 : (0 : Int32) = 0 ∨ (0 : Int32) = 1 := Or.inl rfl
    have g1 : (0 ||| zof (ZDX mA mB oX (zbx 0 (sv (h - 1 - 3)).toInt64 (sv (h - 1 - 1)).toInt64) (zby 0 (sv (h - 1 - 2)).toInt64 (sv (h - 1 - 0)).toInt64)) (ZDX mA mB oY (zby 0 (sv (h - 1 - 2)).toInt64 (sv (h - 1 - 0)).toInt64) (-(zbx 0 (sv (h - 1 - 3)).toInt64 (sv (h - 1 - 1)).toInt64)))) = 0 ∨ (0 ||| zof (ZDX mA mB oX (zbx 0 (sv (h - 1 - 3)).toInt64 (sv (h - 1 - 1)).toInt64) (zby 0 (sv (h - 1 - 2)).toInt64 (sv (h - 1 - 0)).toInt64)) (ZDX mA mB oY (zby 0 (sv (h - 1 - 2)).toInt64 (sv (h - 1 - 0)).toInt64) (-(zbx 0 (sv (h - 1 - 3)).toInt64 (sv (h - 1 - 1)).toInt64)))) = 1 := zor_b g0 (z01 0)
    have g2 : ((0 ||| zof (ZDX mA mB oX (zbx 0 (sv (h - 1 - 3)).toInt64 (sv (h - 1 - 1)).toInt64) (zby 0 (sv (h - 1 - 2)).toInt64 (sv (h - 1 - 0)).toInt64)) (ZDX mA mB oY (zby 0 (sv (h - 1 - 2)).toInt64 (sv (h - 1 - 0)).toInt64) (-(zbx 0 (sv (h - 1 - 3)).toInt64 (sv (h - 1 - 1)).toInt64)))) ||| zof (ZDX mA mB oX (zbx 1 (sv (h - 1 - 3)).toInt64 (sv (h - 1 - 1)).toInt64) (zby 1 (sv (h - 1 - 2)).toInt64 (sv (h - 1 - 0)).toInt64)) (ZDX mA mB oY (zby 1 (sv (h - 1 - 2)).toInt64 (sv (h - 1 - 0)).toInt64) (-(zbx 1 (sv (h - 1 - 3)).toInt64 (sv (h - 1 - 1)).toInt64)))) = 0 ∨ ((0 ||| zof (ZDX mA mB oX (zbx 0 (sv (h - 1 - 3)).toInt64 (sv (h - 1 - 1)).toInt64) (zby 0 (sv (h - 1 - 2)).toInt64 (sv (h - 1 - 0)).toInt64)) (ZDX mA mB oY (zby 0 (sv (h - 1 - 2)).toInt64 (sv (h - 1 - 0)).toInt64) (-(zbx 0 (sv (h - 1 - 3)).toInt64 (sv (h - 1 - 1)).toInt64)))) ||| zof (ZDX mA mB oX (zbx 1 (sv (h - 1 - 3)).toInt64 (sv (h - 1 - 1)).toInt64) (zby 1 (sv (h - 1 - 2)).toInt64 (sv (h - 1 - 0)).toInt64)) (ZDX mA mB oY (zby 1 (sv (h - 1 - 2)).toInt64 (sv (h - 1 - 0)).toInt64) (-(zbx 1 (sv (h - 1 - 3)).toInt64 (sv (h - 1 - 1)).toInt64)))) = 1 := zor_b g1 (z01 1)
    have g3 : (((0 ||| zof (ZDX mA mB oX (zbx 0 (sv (h - 1 - 3)).toInt64 (sv (h - 1 - 1)).toInt64) (zby 0 (sv (h - 1 - 2)).toInt64 (sv (h - 1 - 0)).toInt64)) (ZDX mA mB oY (zby 0 (sv (h - 1 - 2)).toInt64 (sv (h - 1 - 0)).toInt64) (-(zbx 0 (sv (h - 1 - 3)).toInt64 (sv (h - 1 - 1)).toInt64)))) ||| zof (ZDX mA mB oX (zbx 1 (sv (h - 1 - 3)).toInt64 (sv (h - 1 - 1)).toInt64) (zby 1 (sv (h - 1 - 2)).toInt64 (sv (h - 1 - 0)).toInt64)) (ZDX mA mB oY (zby 1 (sv (h - 1 - 2)).toInt64 (sv (h - 1 - 0)).toInt64) (-(zbx 1 (sv (h - 1 - 3)).toInt64 (sv (h - 1 - 1)).toInt64)))) ||| zof (ZDX mA mB oX (zbx 2 (sv (h - 1 - 3)).toInt64 (sv (h - 1 - 1)).toInt64) (zby 2 (sv (h - 1 - 2)).toInt64 (sv (h - 1 - 0)).toInt64)) (ZDX mA mB oY (zby 2 (sv (h - 1 - 2)).toInt64 (sv (h - 1 - 0)).toInt64) (-(zbx 2 (sv (h - 1 - 3)).toInt64 (sv (h - 1 - 1)).toInt64)))) = 0 ∨ (((0 ||| zof (ZDX mA mB oX (zbx 0 (sv (h - 1 - 3)).toInt64 (sv (h - 1 - 1)).toInt64) (zby 0 (sv (h - 1 - 2)).toInt64 (sv (h - 1 - 0)).toInt64)) (ZDX mA mB oY (zby 0 (sv (h - 1 - 2)).toInt64 (sv (h - 1 - 0)).toInt64) (-(zbx 0 (sv (h - 1 - 3)).toInt64 (sv (h - 1 - 1)).toInt64)))) ||| zof (ZDX mA mB oX (zbx 1 (sv (h - 1 - 3)).toInt64 (sv (h - 1 - 1)).toInt64) (zby 1 (sv (h - 1 - 2)).toInt64 (sv (h - 1 - 0)).toInt64)) (ZDX mA mB oY (zby 1 (sv (h - 1 - 2)).toInt64 (sv (h - 1 - 0)).toInt64) (-(zbx 1 (sv (h - 1 - 3)).toInt64 (sv (h - 1 - 1)).toInt64)))) ||| zof (ZDX mA mB oX (zbx 2 (sv (h - 1 - 3)).toInt64 (sv (h - 1 - 1)).toInt64) (zby 2 (sv (h - 1 - 2)).toInt64 (sv (h - 1 - 0)).toInt64)) (ZDX mA mB oY (zby 2 (sv (h - 1 - 2)).toInt64 (sv (h - 1 - 0)).toInt64) (-(zbx 2 (sv (h - 1 - 3)).toInt64 (sv (h - 1 - 1)).toInt64)))) = 1 := zor_b g2 (z01 2)
    refine br_f (by decide) (br_t rfl (y_top (j := 3) rfl rfl hh (by omega) (y_top (j := 2) rfl rfl hh (by omega) (y_top (j := 1) rfl rfl hh (by omega) (y_top (j := 0) rfl rfl hh (by omega) (nm_e ?_))))))
    refine y_planUser (q := 0) (x := (zbx 0 (sv (h - 1 - 3)).toInt64 (sv (h - 1 - 1)).toInt64)) (y := (zby 0 (sv (h - 1 - 2)).toInt64 (sv (h - 1 - 0)).toInt64)) hG.1 rfl (by omega) g0 ?_
    refine y_planUser (q := 1) (x := (zbx 1 (sv (h - 1 - 3)).toInt64 (sv (h - 1 - 1)).toInt64)) (y := (zby 1 (sv (h - 1 - 2)).toInt64 (sv (h - 1 - 0)).toInt64)) hG.1 rfl (by omega) g1 ?_
    refine y_planUser (q := 2) (x := (zbx 2 (sv (h - 1 - 3)).toInt64 (sv (h - 1 - 1)).toInt64)) (y := (zby 2 (sv (h - 1 - 2)).toInt64 (sv (h - 1 - 0)).toInt64)) hG.1 rfl (by omega) g2 ?_
    refine y_planUser (q := 3) (x := (zbx 3 (sv (h - 1 - 3)).toInt64 (sv (h - 1 - 1)).toInt64)) (y := (zby 3 (sv (h - 1 - 2)).toInt64 (sv (h - 1 - 0)).toInt64)) hG.1 rfl (by omega) g3 ?_
    exact br_f (by decide) (br_f (by decide) (br_f (by decide) k))
  refine nm_r (nI_1 s) (nm_r (nI_1 a) ⟨hi, br_t ek ⟨hi, nm_r ev (x_oe0 (by decide) hh hp48 rfl hpc hE (br_t rfl (br_t (by decide) (br_f (by decide) (br_f (by decide) (br_f (by decide) (br_t (by decide) (br_f (by decide) (br_f (by decide) (br_f (by decide) (br_f (by decide) (br_t rfl (?_)))))))))))))⟩⟩)
  unfold wX_execute_139 wpX_changePath
  refine x_opDX (j := 0) rfl rfl hh (by omega) (x_opDY (j := 0) rfl rfl hh (by omega) (br_f (by decide) (br_f (by decide) (br_f (by decide) (br_t (by decide) (?_))))))
  unfold wpX_drawBox
  by_cases hz : ∀ j, j < 4 → zof (ZDX mA mB oX (zbx j (sv (h - 1 - 3)).toInt64 (sv (h - 1 - 1)).toInt64) (zby j (sv (h - 1 - 2)).toInt64 (sv (h - 1 - 0)).toInt64)) (ZDX mA mB oY (zby j (sv (h - 1 - 2)).toInt64 (sv (h - 1 - 0)).toInt64) (-(zbx j (sv (h - 1 - 3)).toInt64 (sv (h - 1 - 1)).toInt64))) = 0
  · refine ⟨5, x_box2 rfl hh z1 hz (x_153 (n := 4) (by decide) rfl z1 rfl (H 0 _ (nI t, 0, nI (h - 4), nI n, nI a + 1, 0, -1, nI (s + 1), nI c, nI (3 + 1), mn 0, 1, ((((0 ||| zof (ZDX mA mB oX (zbx 0 (sv (h - 1 - 3)).toInt64 (sv (h - 1 - 1)).toInt64) (zby 0 (sv (h - 1 - 2)).toInt64 (sv (h - 1 - 0)).toInt64)) (ZDX mA mB oY (zby 0 (sv (h - 1 - 2)).toInt64 (sv (h - 1 - 0)).toInt64) (-(zbx 0 (sv (h - 1 - 3)).toInt64 (sv (h - 1 - 1)).toInt64)))) ||| zof (ZDX mA mB oX (zbx 1 (sv (h - 1 - 3)).toInt64 (sv (h - 1 - 1)).toInt64) (zby 1 (sv (h - 1 - 2)).toInt64 (sv (h - 1 - 0)).toInt64)) (ZDX mA mB oY (zby 1 (sv (h - 1 - 2)).toInt64 (sv (h - 1 - 0)).toInt64) (-(zbx 1 (sv (h - 1 - 3)).toInt64 (sv (h - 1 - 1)).toInt64)))) ||| zof (ZDX mA mB oX (zbx 2 (sv (h - 1 - 3)).toInt64 (sv (h - 1 - 1)).toInt64) (zby 2 (sv (h - 1 - 2)).toInt64 (sv (h - 1 - 0)).toInt64)) (ZDX mA mB oY (zby 2 (sv (h - 1 - 2)).toInt64 (sv (h - 1 - 0)).toInt64) (-(zbx 2 (sv (h - 1 - 3)).toInt64 (sv (h - 1 - 1)).toInt64)))) ||| zof (ZDX mA mB oX (zbx 3 (sv (h - 1 - 3)).toInt64 (sv (h - 1 - 1)).toInt64) (zby 3 (sv (h - 1 - 2)).toInt64 (sv (h - 1 - 0)).toInt64)) (ZDX mA mB oY (zby 3 (sv (h - 1 - 2)).toInt64 (sv (h - 1 - 0)).toInt64) (-(zbx 3 (sv (h - 1 - 3)).toInt64 (sv (h - 1 - 1)).toInt64)))), tk, tv, dg, sk, sv, vk, vv, hw, fr, og, lf, st, la, fm, fc, gr, wi, upd mn 0 (nI (0 + 4)), zf qx 0 (0 + 4) (fun i => (upd (upd (upd (upd nx 0 (ZDX mA mB oX (zbx 0 (sv (h - 1 - 3)).toInt64 (sv (h - 1 - 1)).toInt64) (zby 0 (sv (h - 1 - 2)).toInt64 (sv (h - 1 - 0)).toInt64)).toInt32) 1 (ZDX mA mB oX (zbx 1 (sv (h - 1 - 3)).toInt64 (sv (h - 1 - 1)).toInt64) (zby 1 (sv (h - 1 - 2)).toInt64 (sv (h - 1 - 0)).toInt64)).toInt32) 2 (ZDX mA mB oX (zbx 2 (sv (h - 1 - 3)).toInt64 (sv (h - 1 - 1)).toInt64) (zby 2 (sv (h - 1 - 2)).toInt64 (sv (h - 1 - 0)).toInt64)).toInt32) 3 (ZDX mA mB oX (zbx 3 (sv (h - 1 - 3)).toInt64 (sv (h - 1 - 1)).toInt64) (zby 3 (sv (h - 1 - 2)).toInt64 (sv (h - 1 - 0)).toInt64)).toInt32) (i - 0)), zf qy 0 (0 + 4) (fun i => (upd (upd (upd (upd ny 0 (ZDX mA mB oY (zby 0 (sv (h - 1 - 2)).toInt64 (sv (h - 1 - 0)).toInt64) (-(zbx 0 (sv (h - 1 - 3)).toInt64 (sv (h - 1 - 1)).toInt64))).toInt32) 1 (ZDX mA mB oY (zby 1 (sv (h - 1 - 2)).toInt64 (sv (h - 1 - 0)).toInt64) (-(zbx 1 (sv (h - 1 - 3)).toInt64 (sv (h - 1 - 1)).toInt64))).toInt32) 2 (ZDX mA mB oY (zby 2 (sv (h - 1 - 2)).toInt64 (sv (h - 1 - 0)).toInt64) (-(zbx 2 (sv (h - 1 - 3)).toInt64 (sv (h - 1 - 1)).toInt64))).toInt32) 3 (ZDX mA mB oY (zby 3 (sv (h - 1 - 2)).toInt64 (sv (h - 1 - 0)).toInt64) (-(zbx 3 (sv (h - 1 - 3)).toInt64 (sv (h - 1 - 1)).toInt64))).toInt32) (i - 0)), zf ss 0 (0 + 4) (fun i => if (1 : Int32) ≠ 0 ∧ i = 0 then 1 else 0), upd (zf cl 0 (0 + 4) (fun _ => 0)) 0 1, cp, upd (upd (upd (upd nx 0 (ZDX mA mB oX (zbx 0 (sv (h - 1 - 3)).toInt64 (sv (h - 1 - 1)).toInt64) (zby 0 (sv (h - 1 - 2)).toInt64 (sv (h - 1 - 0)).toInt64)).toInt32) 1 (ZDX mA mB oX (zbx 1 (sv (h - 1 - 3)).toInt64 (sv (h - 1 - 1)).toInt64) (zby 1 (sv (h - 1 - 2)).toInt64 (sv (h - 1 - 0)).toInt64)).toInt32) 2 (ZDX mA mB oX (zbx 2 (sv (h - 1 - 3)).toInt64 (sv (h - 1 - 1)).toInt64) (zby 2 (sv (h - 1 - 2)).toInt64 (sv (h - 1 - 0)).toInt64)).toInt32) 3 (ZDX mA mB oX (zbx 3 (sv (h - 1 - 3)).toInt64 (sv (h - 1 - 1)).toInt64) (zby 3 (sv (h - 1 - 2)).toInt64 (sv (h - 1 - 0)).toInt64)).toInt32, upd (upd (upd (upd ny 0 (ZDX mA mB oY (zby 0 (sv (h - 1 - 2)).toInt64 (sv (h - 1 - 0)).toInt64) (-(zbx 0 (sv (h - 1 - 3)).toInt64 (sv (h - 1 - 1)).toInt64))).toInt32) 1 (ZDX mA mB oY (zby 1 (sv (h - 1 - 2)).toInt64 (sv (h - 1 - 0)).toInt64) (-(zbx 1 (sv (h - 1 - 3)).toInt64 (sv (h - 1 - 1)).toInt64))).toInt32) 2 (ZDX mA mB oY (zby 2 (sv (h - 1 - 2)).toInt64 (sv (h - 1 - 0)).toInt64) (-(zbx 2 (sv (h - 1 - 3)).toInt64 (sv (h - 1 - 1)).toInt64))).toInt32) 3 (ZDX mA mB oY (zby 3 (sv (h - 1 - 2)).toInt64 (sv (h - 1 - 0)).toInt64) (-(zbx 3 (sv (h - 1 - 3)).toInt64 (sv (h - 1 - 1)).toInt64))).toInt32) (zs_ok ⟨hT, zst_le hS (by omega), hV, hF, hpn, zgs_path (q := 4) hG ?_, zsv_up hSV zr_i zr_i zr_i zr_i zr_u (fun i hi => zf_hi (by omega)) (fun i hi => zf_hi (by omega)) (fun i hi => zf_hi (by omega)) (fun i hi => by rw [pk_un (by omega)]; exact zf_hi (by omega)) zr_i⟩ rfl (nI_1 a) rfl rfl rfl rfl rfl rfl) (fun PY hp => ?_))) 4 0 rfl⟩
    · have es0 : (zf ss 0 (0 + 4) (fun i => if (1 : Int32) ≠ 0 ∧ i = 0 then 1 else 0)) 0 ≠ 0 := by
        rw [zf_in (by omega) (by omega), if_pos ⟨by decide, rfl⟩]
        decide
      have esk : ∀ k, 0 < k → k < 4 → (zf ss 0 (0 + 4) (fun i => if (1 : Int32) ≠ 0 ∧ i = 0 then 1 else 0)) k = 0 := fun k h1 h2 => by
        rw [zf_in (by omega) (by omega), if_neg (fun z => by omega)]
      refine ⟨by omega, fun _ => es0, fun k hk => ?_⟩
      have hf : Zft (zf ss 0 (0 + 4) (fun i => if (1 : Int32) ≠ 0 ∧ i = 0 then 1 else 0)) k = 0 := zft_beg es0 k (by omega) (fun j h1 h2 => esk j h1 (by omega))
      have hb := zof_0 (hz k hk)
      rw [hf, pk_us, zf_in (a := qx) (by omega) (by omega), zf_in (a := qy) (by omega) (by omega), zf_in (a := px) (by omega) (by omega), zf_in (a := py) (by omega) (by omega), zf_in (a := pm) (by omega) (by omega)]
      have hk4 : k = 0 ∨ k = 1 ∨ k = 2 ∨ k = 3 := by omega
      rcases hk4 with rfl | rfl | rfl | rfl
      · refine ⟨rfl, rfl, ?_, Or.inr rfl, ?_, hb.1, hb.2⟩
        · rw [zf_in (by omega) (by omega), if_pos ⟨by decide, rfl⟩]; exact Or.inr rfl
        · rw [show (zf ss 0 (0 + 4) (fun i => if (1 : Int32) ≠ 0 ∧ i = 0 then 1 else 0)) 0 = 1 by rw [zf_in (by omega) (by omega), if_pos ⟨by decide, rfl⟩]]; rfl
      · refine ⟨rfl, rfl, ?_, ?_, ?_, hb.1, hb.2⟩
        · rw [esk 1 (by omega) (by omega)]; exact Or.inl rfl
        · rw [pk_un (by omega), zf_in (by omega) (by omega)]; exact Or.inl rfl
        · rw [esk 1 (by omega) (by omega)]; rfl
      · refine ⟨rfl, rfl, ?_, ?_, ?_, hb.1, hb.2⟩
        · rw [esk 2 (by omega) (by omega)]; exact Or.inl rfl
        · rw [pk_un (by omega), zf_in (by omega) (by omega)]; exact Or.inl rfl
        · rw [esk 2 (by omega) (by omega)]; rfl
      · refine ⟨rfl, rfl, ?_, ?_, ?_, hb.1, hb.2⟩
        · rw [esk 3 (by omega) (by omega)]; exact Or.inl rfl
        · rw [pk_un (by omega), zf_in (by omega) (by omega)]; exact Or.inl rfl
        · rw [esk 3 (by omega) (by omega)]; rfl
    · refine ⟨hi, nm_r ev ⟨hi, nm_r ek (br_f (by decide) (br_f (by decide) (br_f (by decide) (br_t rfl ?_))))⟩⟩
      unfold wY_execute_245 wpY_operate
      refine y_check (by decide) hh hp48 (zst_k hS) rfl hmn (fun z => absurd hE z) (fun _ z => absurd z (by decide)) (fun _ _ _ => hYp _ (y_ckP (g := pc) (q := 4) rfl hh z1 hmn hp48 hmn (by omega) rfl (by omega) (by decide) (by decide) (by decide) (by decide) (by decide) (by decide) (by decide) (by decide) (by decide) (by decide) (by decide) (by decide) (by decide) (fun z => by omega) (fun _ z => absurd (hall.mpr hz) z) (fun _ _ => br_t rfl ?_)))
      refine br_t (by decide) (br_t (by decide) (br_t (by decide) (br_f (by decide) (br_t rfl (?_)))))
      unfold wY_operate_71
      refine y_path (m := 0) (q := 4) (n := 4) (g := pc) (by decide) (by decide) rfl z1 rfl (by omega) (by omega) (Or.inr rfl) (by decide) rfl hmn hmn (by omega) (by omega) hp48 (fun _ => ?_) (fun z => absurd rfl z)
      unfold wY_path_138
      have es0 : (zf ss 0 (0 + 4) (fun i => if (1 : Int32) ≠ 0 ∧ i = 0 then 1 else 0)) 0 ≠ 0 := by
        rw [zf_in (by omega) (by omega), if_pos ⟨by decide, rfl⟩]
        decide
      have hf : Zft (zf ss 0 (0 + 4) (fun i => if (1 : Int32) ≠ 0 ∧ i = 0 then 1 else 0)) 3 = 0 := zft_beg es0 3 (by omega) (fun j h1 h2 => by rw [zf_in (by omega) (by omega), if_neg (fun z => by omega)])
      refine y_fol (pc := 3) es0 rfl (by omega) ?_
      rw [hf]
      exact ⟨vp_in_nI (by omega) (by omega), nm_r (show _ = upd (zf cl 0 (0 + 4) (fun _ => 0)) 0 1 from rfl) (br_f (by decide) (nm_e hp))⟩
  · have hex : ∃ j, 0 ≤ j ∧ j < 4 ∧ zof (ZDX mA mB oX (zbx j (sv (h - 1 - 3)).toInt64 (sv (h - 1 - 1)).toInt64) (zby j (sv (h - 1 - 2)).toInt64 (sv (h - 1 - 0)).toInt64)) (ZDX mA mB oY (zby j (sv (h - 1 - 2)).toInt64 (sv (h - 1 - 0)).toInt64) (-(zbx j (sv (h - 1 - 3)).toInt64 (sv (h - 1 - 1)).toInt64))) ≠ 0 := by
      rcases z01 0 with q0 | q0
      · rcases z01 1 with q1 | q1
        · rcases z01 2 with q2 | q2
          · rcases z01 3 with q3 | q3
            · exact absurd (hall.mp ((zor_4 (z01 0) (z01 1) (z01 2) (z01 3)).mpr ⟨q0, q1, q2, q3⟩)) hz
            · exact ⟨3, by omega, by omega, by rw [q3]; decide⟩
          · exact ⟨2, by omega, by omega, by rw [q2]; decide⟩
        · exact ⟨1, by omega, by omega, by rw [q1]; decide⟩
      · exact ⟨0, by omega, by omega, by rw [q0]; decide⟩
    refine ⟨5, x_box2e rfl hh z1 (x_153e (by decide) (H 5 _ (nI t, 0, nI h, nI n, nI a, 5, -1, nI (s + 1), nI c, nI (3 + 1), mn 0, 1, ((((0 ||| zof (ZDX mA mB oX (zbx 0 (sv (h - 1 - 3)).toInt64 (sv (h - 1 - 1)).toInt64) (zby 0 (sv (h - 1 - 2)).toInt64 (sv (h - 1 - 0)).toInt64)) (ZDX mA mB oY (zby 0 (sv (h - 1 - 2)).toInt64 (sv (h - 1 - 0)).toInt64) (-(zbx 0 (sv (h - 1 - 3)).toInt64 (sv (h - 1 - 1)).toInt64)))) ||| zof (ZDX mA mB oX (zbx 1 (sv (h - 1 - 3)).toInt64 (sv (h - 1 - 1)).toInt64) (zby 1 (sv (h - 1 - 2)).toInt64 (sv (h - 1 - 0)).toInt64)) (ZDX mA mB oY (zby 1 (sv (h - 1 - 2)).toInt64 (sv (h - 1 - 0)).toInt64) (-(zbx 1 (sv (h - 1 - 3)).toInt64 (sv (h - 1 - 1)).toInt64)))) ||| zof (ZDX mA mB oX (zbx 2 (sv (h - 1 - 3)).toInt64 (sv (h - 1 - 1)).toInt64) (zby 2 (sv (h - 1 - 2)).toInt64 (sv (h - 1 - 0)).toInt64)) (ZDX mA mB oY (zby 2 (sv (h - 1 - 2)).toInt64 (sv (h - 1 - 0)).toInt64) (-(zbx 2 (sv (h - 1 - 3)).toInt64 (sv (h - 1 - 1)).toInt64)))) ||| zof (ZDX mA mB oX (zbx 3 (sv (h - 1 - 3)).toInt64 (sv (h - 1 - 1)).toInt64) (zby 3 (sv (h - 1 - 2)).toInt64 (sv (h - 1 - 0)).toInt64)) (ZDX mA mB oY (zby 3 (sv (h - 1 - 2)).toInt64 (sv (h - 1 - 0)).toInt64) (-(zbx 3 (sv (h - 1 - 3)).toInt64 (sv (h - 1 - 1)).toInt64)))), tk, tv, dg, sk, sv, vk, vv, hw, fr, og, lf, st, la, fm, fc, gr, wi, mn, qx, qy, ss, cl, cp, upd (upd (upd (upd nx 0 (ZDX mA mB oX (zbx 0 (sv (h - 1 - 3)).toInt64 (sv (h - 1 - 1)).toInt64) (zby 0 (sv (h - 1 - 2)).toInt64 (sv (h - 1 - 0)).toInt64)).toInt32) 1 (ZDX mA mB oX (zbx 1 (sv (h - 1 - 3)).toInt64 (sv (h - 1 - 1)).toInt64) (zby 1 (sv (h - 1 - 2)).toInt64 (sv (h - 1 - 0)).toInt64)).toInt32) 2 (ZDX mA mB oX (zbx 2 (sv (h - 1 - 3)).toInt64 (sv (h - 1 - 1)).toInt64) (zby 2 (sv (h - 1 - 2)).toInt64 (sv (h - 1 - 0)).toInt64)).toInt32) 3 (ZDX mA mB oX (zbx 3 (sv (h - 1 - 3)).toInt64 (sv (h - 1 - 1)).toInt64) (zby 3 (sv (h - 1 - 2)).toInt64 (sv (h - 1 - 0)).toInt64)).toInt32, upd (upd (upd (upd ny 0 (ZDX mA mB oY (zby 0 (sv (h - 1 - 2)).toInt64 (sv (h - 1 - 0)).toInt64) (-(zbx 0 (sv (h - 1 - 3)).toInt64 (sv (h - 1 - 1)).toInt64))).toInt32) 1 (ZDX mA mB oY (zby 1 (sv (h - 1 - 2)).toInt64 (sv (h - 1 - 0)).toInt64) (-(zbx 1 (sv (h - 1 - 3)).toInt64 (sv (h - 1 - 1)).toInt64))).toInt32) 2 (ZDX mA mB oY (zby 2 (sv (h - 1 - 2)).toInt64 (sv (h - 1 - 0)).toInt64) (-(zbx 2 (sv (h - 1 - 3)).toInt64 (sv (h - 1 - 1)).toInt64))).toInt32) 3 (ZDX mA mB oY (zby 3 (sv (h - 1 - 2)).toInt64 (sv (h - 1 - 0)).toInt64) (-(zbx 3 (sv (h - 1 - 3)).toInt64 (sv (h - 1 - 1)).toInt64))).toInt32) (zs_er hR' (by decide)) (fun PY hp => ?_))) 4 0 rfl hex⟩
    refine ⟨hi, nm_r ev ⟨hi, nm_r ek (br_f (by decide) (br_f (by decide) (br_f (by decide) (br_t rfl ?_))))⟩⟩
    unfold wY_execute_245 wpY_operate
    refine y_check (by decide) hh hp48 (zst_k hS) rfl hmn (fun z => absurd hE z) (fun _ z => absurd z (by decide)) (fun _ _ _ => hYp _ (y_ckP (g := pc) (q := 4) rfl hh z1 hmn hp48 hmn (by omega) rfl (by omega) (by decide) (by decide) (by decide) (by decide) (by decide) (by decide) (by decide) (by decide) (by decide) (by decide) (by decide) (by decide) (by decide) (fun z => by omega) (fun _ _ => br_f (by decide) hp) (fun _ z => absurd (hall.mp z) hz)))
end
