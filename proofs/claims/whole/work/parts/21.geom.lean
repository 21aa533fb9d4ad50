/-! ===== where a line passes a dot ===== -/
def zpl (a b c d i j : Int32) : Int32 := (((2 * a) * (d - b)) + ((c - a) * (((2 * j) + 1) - (2 * b)))) - (((2 * i) + 1) * (d - b))
def zps (a b c d i j : Int32) : Int32 := if (if j < b then (0 : Int32) else 1) = (if j < d then 0 else 1) then 0 else if d ≤ b then (if zpl a b c d i j < 0 then 0 else -1) else (if 0 < zpl a b c d i j then 0 else 1)
theorem zg_mul {x y : Int} {m n : Nat} (h1 : -(m : Int) ≤ x) (h2 : x ≤ m) (h3 : -(n : Int) ≤ y) (h4 : y ≤ n) : -((m * n : Nat) : Int) ≤ x * y ∧ x * y ≤ ((m * n : Nat) : Int) := by
  have e : (x * y).natAbs = x.natAbs * y.natAbs := Int.natAbs_mul x y
  have l : x.natAbs * y.natAbs ≤ m * n := Nat.mul_le_mul (by omega) (by omega)
  omega
theorem zg_of {Z : Int} (h1 : -2000000 ≤ Z) (h2 : Z ≤ 2000000) : (Int32.ofInt Z).toInt = Z := by
  rw [Int32.toInt_ofInt]
  show Z.bmod 4294967296 = Z
  exact Int.bmod_eq_of_le (by omega) (by omega)
theorem zg_lit2 : Int32.ofInt 2 = 2 := by decide
theorem zg_lit1 : Int32.ofInt 1 = 1 := by decide
theorem zpl_i {a b c d : Int32} {I J : Nat} (ha : Zsm a) (hb : Zsm b) (hc : Zsm c) (hd : Zsm d) (hI : I < 24) (hJ : J < 24) : -600000 ≤ (zpl a b c d (nI I) (nI J)).toInt ∧ (zpl a b c d (nI I) (nI J)).toInt ≤ 600000 := by
  obtain ⟨a1, a2⟩ := ha
  obtain ⟨b1, b2⟩ := hb
  obtain ⟨c1, c2⟩ := hc
  obtain ⟨d1, d2⟩ := hd
  have ei : (nI I).toInt = (I : Int) := nI_toInt (by omega)
  have ej : (nI J).toInt = (J : Int) := nI_toInt (by omega)
  have e : zpl a b c d (nI I) (nI J) = Int32.ofInt (((2 * a.toInt) * (d.toInt - b.toInt) + (c.toInt - a.toInt) * ((2 * (nI J).toInt + 1) - 2 * b.toInt)) - (2 * (nI I).toInt + 1) * (d.toInt - b.toInt)) := by
    simp only [Int32.ofInt_sub, Int32.ofInt_add, Int32.ofInt_mul, Int32.ofInt_toInt, zg_lit2, zg_lit1]
    rfl
  have m1 := zg_mul (x := 2 * a.toInt) (y := d.toInt - b.toInt) (m := 400) (n := 400) (by omega) (by omega) (by omega) (by omega)
  have m2 := zg_mul (x := c.toInt - a.toInt) (y := (2 * (nI J).toInt + 1) - 2 * b.toInt) (m := 400) (n := 500) (by omega) (by omega) (by omega) (by omega)
  have m3 := zg_mul (x := 2 * (nI I).toInt + 1) (y := d.toInt - b.toInt) (m := 50) (n := 400) (by omega) (by omega) (by omega) (by omega)
  rw [e, zg_of (by omega) (by omega)]
  omega
theorem zg_dbl {x : Int32} (h1 : -600000 ≤ x.toInt) (h2 : x.toInt ≤ 600000) : (x + x).toInt = x.toInt + x.toInt := by
  rw [Int32.toInt_add]
  exact Int.bmod_eq_of_le (by omega) (by omega)
theorem zg_c1 {b : Int32} {J : Nat} (hb : Zsm b) (hJ : J < 24) : (2 * nI J + 1 ≤ 2 * b) ↔ nI J < b := by
  obtain ⟨b1, b2⟩ := hb
  have ej : (nI J).toInt = (J : Int) := nI_toInt (by omega)
  have e1 : (2 * nI J + 1).toInt = 2 * (J : Int) + 1 := by
    have : 2 * nI J + 1 = nI (2 * J + 1) := by
      show nI 2 * nI J + nI 1 = _
      rw [pk_mul, nI_add]
    rw [this, nI_toInt (by omega)]
    omega
  have e2 : (2 * b).toInt = 2 * b.toInt := by
    have : 2 * b = Int32.ofInt (2 * b.toInt) := by
      simp only [Int32.ofInt_mul, Int32.ofInt_toInt, zg_lit2]
    rw [this, zg_of (by omega) (by omega)]
  rw [zt_le, zt_lt, e1, e2, ej]
  omega
theorem zg_c2 {b d : Int32} (hb : Zsm b) (hd : Zsm d) : (2 * d - 2 * b ≤ 0) ↔ d ≤ b := by
  obtain ⟨b1, b2⟩ := hb
  obtain ⟨d1, d2⟩ := hd
  have e2 : (2 * d - 2 * b).toInt = 2 * d.toInt - 2 * b.toInt := by
    have : 2 * d - 2 * b = Int32.ofInt (2 * d.toInt - 2 * b.toInt) := by
      simp only [Int32.ofInt_sub, Int32.ofInt_mul, Int32.ofInt_toInt, zg_lit2]
    rw [this, zg_of (by omega) (by omega)]
  rw [zt_le, zt_le, e2, z32_0]
  omega
theorem zg_x {a b c d i j : Int32} : (2 * a - (2 * i + 1)) * (2 * d - 2 * b) + (2 * c - 2 * a) * ((2 * j + 1) - 2 * b) = zpl a b c d i j + zpl a b c d i j := by
  unfold zpl
  grind
section
variable {tc ob ps su ep sd bc mA mB oX oY gY wD pC sC yt yo yh yi ya ye yp ys yc nw gn bg wd : Int32} {tk tv cb sk sv vk vv bp br bh bn bs bl px py pm cr sn sx sy sm sp dg hw fr og lf st la fm fc gr wi mn qx qy ss cl cp nx ny : Nat → Int32}
theorem y_passes {post : Int32 → Prop} {p q : Nat} {i j : Int32} (hp : p < 240) (hq : q < 240) (k : post (zps (qx p) (qy p) (qx q) (qy q) i j)) : wpY_passes post (yt, yo, yh, yi, ya, ye, yp, ys, yc, nw, gn, bg, wd, tk, tv, dg, sk, sv, vk, vv, hw, fr, og, lf, st, la, fm, fc, gr, wi, mn, qx, qy, ss, cl, cp, nx, ny) (nI p) (nI q) i j := by
  have ip : vp_in (nI p) 240 := vp_in_nI hp (by omega)
  have iq : vp_in (nI q) 240 := vp_in_nI hq (by omega)
  have ep : (nI p).toNatClampNeg = p := zc_i (by omega)
  have eq : (nI q).toNatClampNeg = q := zc_i (by omega)
  have t56 : ∀ z0 z1 : Int32, post (if z1 = z0 then 0 else if qy q ≤ qy p then (if zpl (qx p) (qy p) (qx q) (qy q) i j < 0 then 0 else -1) else (if 0 < zpl (qx p) (qy p) (qx q) (qy q) i j then 0 else 1)) → wY_passes_56 post i j (qx p) (qy p) (qx q) (qy q) z0 z1 yt yo yh yi ya ye yp ys yc nw gn bg wd tk tv dg sk sv vk vv hw fr og lf st la fm fc gr wi mn qx qy ss cl cp nx ny := by
    intro z0 z1 kk
    refine br_c (fun e => ?_) (fun e => nm_e (br_c (fun e2 => br_c (fun e3 => ?_) (fun e3 => ?_)) (fun e2 => br_c (fun e3 => ?_) (fun e3 => ?_))))
    · rw [if_pos e] at kk; exact kk
    · rw [if_neg e, if_pos e2, if_pos (show zpl (qx p) (qy p) (qx q) (qy q) i j < 0 from e3)] at kk; exact kk
    · rw [if_neg e, if_pos e2, if_neg (show ¬ zpl (qx p) (qy p) (qx q) (qy q) i j < 0 from e3)] at kk; exact kk
    · rw [if_neg e, if_neg e2, if_pos (show 0 < zpl (qx p) (qy p) (qx q) (qy q) i j from e3)] at kk; exact kk
    · rw [if_neg e, if_neg e2, if_neg (show ¬ 0 < zpl (qx p) (qy p) (qx q) (qy q) i j from e3)] at kk; exact kk
  have t44 : ∀ z : Int32, z = (if j < qy p then (0 : Int32) else 1) → wY_passes_44 post i j (qx p) (qy p) (qx q) (qy q) z yt yo yh yi ya ye yp ys yc nw gn bg wd tk tv dg sk sv vk vv hw fr og lf st la fm fc gr wi mn qx qy ss cl cp nx ny := by
    intro z hz
    unfold zps at k
    rw [← hz] at k
    refine br_c (fun e => t56 0 z ?_) (fun e => t56 1 z ?_)
    · rw [if_pos e] at k; exact k
    · rw [if_neg e] at k; exact k
  refine ⟨ip, nm_r (congrArg qx ep) ⟨ip, nm_r (congrArg qy ep) ⟨iq, nm_r (congrArg qx eq) ⟨iq, nm_r (congrArg qy eq) (br_c (fun e => t44 0 ?_) (fun e => t44 1 ?_))⟩⟩⟩⟩
  · rw [if_pos e]
  · rw [if_neg e]
theorem x_passing {post : Int32 → Prop} {p q I J : Nat} (hp : p < 48) (hq : q < 48) (sa : Zsm (px p)) (sb : Zsm (py p)) (sc : Zsm (px q)) (sd' : Zsm (py q)) (hI : I < 24) (hJ : J < 24) (k : post (zps (px p) (py p) (px q) (py q) (nI I) (nI J))) : wpX_passing post (tc, ob, ps, su, ep, sd, bc, mA, mB, oX, oY, gY, wD, pC, sC, tk, tv, cb, sk, sv, vk, vv, bp, br, bh, bn, bs, bl, px, py, pm, cr, sn, sx, sy, sm, sp, dg) (nI p) (nI q) (nI I) (nI J) := by
  have ip : vp_in (nI p) 48 := vp_in_nI hp (by omega)
  have iq : vp_in (nI q) 48 := vp_in_nI hq (by omega)
  have ekp : (nI p).toNatClampNeg = p := zc_i (by omega)
  have eq : (nI q).toNatClampNeg = q := zc_i (by omega)
  obtain ⟨l1, l2⟩ := zpl_i sa sb sc sd' hI hJ
  have l3 := zg_dbl l1 l2
  have t59 : ∀ z0 z1 : Int32, post (if z1 = z0 then 0 else if py q ≤ py p then (if zpl (px p) (py p) (px q) (py q) (nI I) (nI J) < 0 then 0 else -1) else (if 0 < zpl (px p) (py p) (px q) (py q) (nI I) (nI J) then 0 else 1)) → wX_passing_59 post (nI p) (nI q) (2 * nI I + 1) (2 * nI J + 1) (2 * py p) (2 * py q) z0 z1 tc ob ps su ep sd bc mA mB oX oY gY wD pC sC tk tv cb sk sv vk vv bp br bh bn bs bl px py pm cr sn sx sy sm sp dg := by
    intro z0 z1 kk
    refine br_c (fun e => ?_) (fun e => nm_e ⟨iq, ip, nm_r (show _ = 2 * px q - 2 * px p by rw [ekp, eq]) ⟨ip, nm_r (show _ = zpl (px p) (py p) (px q) (py q) (nI I) (nI J) + zpl (px p) (py p) (px q) (py q) (nI I) (nI J) by rw [ekp]; exact zg_x) (br_c (fun e2 => br_c (fun e3 => ?_) (fun e3 => ?_)) (fun e2 => br_c (fun e3 => ?_) (fun e3 => ?_)))⟩⟩)
    · rw [if_pos e] at kk; exact kk
    · rw [zt_lt, l3, z32_0] at e3
      rw [if_neg e, if_pos ((zg_c2 sb sd').mp e2), if_pos (by rw [zt_lt, z32_0]; omega)] at kk; exact kk
    · rw [zt_lt, l3, z32_0] at e3
      rw [if_neg e, if_pos ((zg_c2 sb sd').mp e2), if_neg (by rw [zt_lt, z32_0]; omega)] at kk; exact kk
    · rw [zt_lt, l3, z32_0] at e3
      rw [if_neg e, if_neg (fun z => e2 ((zg_c2 sb sd').mpr z)), if_pos (by rw [zt_lt, z32_0]; omega)] at kk; exact kk
    · rw [zt_lt, l3, z32_0] at e3
      rw [if_neg e, if_neg (fun z => e2 ((zg_c2 sb sd').mpr z)), if_neg (by rw [zt_lt, z32_0]; omega)] at kk; exact kk
  have t47 : ∀ z : Int32, z = (if nI J < py p then (0 : Int32) else 1) → wX_passing_47 post (nI p) (nI q) (2 * nI I + 1) (2 * nI J + 1) (2 * py p) (2 * py q) z tc ob ps su ep sd bc mA mB oX oY gY wD pC sC tk tv cb sk sv vk vv bp br bh bn bs bl px py pm cr sn sx sy sm sp dg := by
    intro z hz
    unfold zps at k
    rw [← hz] at k
    refine br_c (fun e => t59 0 z ?_) (fun e => t59 1 z ?_)
    · rw [if_pos ((zg_c1 sd' hJ).mp e)] at k; exact k
    · rw [if_neg (fun z => e ((zg_c1 sd' hJ).mpr z))] at k; exact k
  refine nm_e (nm_e ⟨ip, nm_r (show _ = 2 * py p by rw [ekp]) ⟨iq, nm_r (show _ = 2 * py q by rw [eq]) (br_c (fun e => t47 0 ?_) (fun e => t47 1 ?_))⟩⟩)
  · rw [if_pos ((zg_c1 sb hJ).mp e)]
  · rw [if_neg (fun z => e ((zg_c1 sb hJ).mpr z))]
/-! ===== near a line ===== -/
def znr2 (ww x y dx dy : Int64) : Int32 := if 0 < x * dx + y * dy then (if x * dx + y * dy < dx * dx + dy * dy then (if ww * (dx * dx + dy * dy) < (x * dy - y * dx) * (x * dy - y * dx) then 0 else 1) else (if ww < (x - dx) * (x - dx) + (y - dy) * (y - dy) then 0 else 1)) else (if ww < x * x + y * y then 0 else 1)
def znr (w a b c d i j : Int32) : Int32 := znr2 (w.toInt64 * w.toInt64) (((2 * i) + 1) - (2 * a)).toInt64 (((2 * j) + 1) - (2 * b)).toInt64 (2 * (c - a)).toInt64 (2 * (d - b)).toInt64
theorem y_touches {post : Int32 → Prop} {p q : Nat} {i j : Int32} (hp : p < 240) (hq : q < 240) (k : post (znr (wi 0) (qx p) (qy p) (qx q) (qy q) i j)) : wpY_touches post (yt, yo, yh, yi, ya, ye, yp, ys, yc, nw, gn, bg, wd, tk, tv, dg, sk, sv, vk, vv, hw, fr, og, lf, st, la, fm, fc, gr, wi, mn, qx, qy, ss, cl, cp, nx, ny) (nI p) (nI q) i j := by
  have ip : vp_in (nI p) 240 := vp_in_nI hp (by omega)
  have iq : vp_in (nI q) 240 := vp_in_nI hq (by omega)
  have ep : (nI p).toNatClampNeg = p := zc_i (by omega)
  have eq : (nI q).toNatClampNeg = q := zc_i (by omega)
  unfold znr at k
  refine ⟨ip, nm_r (show _ = (((2 * i) + 1) - (2 * qx p)).toInt64 by rw [ep]) ⟨ip, nm_r (show _ = (((2 * j) + 1) - (2 * qy p)).toInt64 by rw [ep]) ⟨iq, ip, nm_r (show _ = (2 * (qx q - qx p)).toInt64 by rw [ep, eq]) ⟨iq, ip, nm_r (show _ = (2 * (qy q - qy p)).toInt64 by rw [ep, eq]) ?_⟩⟩⟩⟩
  generalize (((2 * i) + 1) - (2 * qx p)).toInt64 = x at *
  generalize (((2 * j) + 1) - (2 * qy p)).toInt64 = y at *
  generalize (2 * (qx q - qx p)).toInt64 = dx at *
  generalize (2 * (qy q - qy p)).toInt64 = dy at *
  refine nm_e (nm_e (nm_e ?_))
  unfold znr2 at k
  refine br_c (fun e1 => br_c (fun e2 => nm_e (br_c (fun e3 => ?_) (fun e3 => ?_))) (fun e2 => br_c (fun e3 => ?_) (fun e3 => ?_))) (fun e1 => br_c (fun e3 => ?_) (fun e3 => ?_))
  · rw [if_pos e1, if_pos e2, if_pos e3] at k; exact k
  · rw [if_pos e1, if_pos e2, if_neg e3] at k; exact k
  · rw [if_pos e1, if_neg e2, if_pos e3] at k; exact k
  · rw [if_pos e1, if_neg e2, if_neg e3] at k; exact k
  · rw [if_neg e1, if_pos e3] at k; exact k
  · rw [if_neg e1, if_neg e3] at k; exact k
theorem x_isNear {post : Int32 → Prop} {p q : Nat} {i j : Int32} (hp : p < 48) (hq : q < 48) (k : post (znr wD (px p) (py p) (px q) (py q) i j)) : wpX_isNear post (tc, ob, ps, su, ep, sd, bc, mA, mB, oX, oY, gY, wD, pC, sC, tk, tv, cb, sk, sv, vk, vv, bp, br, bh, bn, bs, bl, px, py, pm, cr, sn, sx, sy, sm, sp, dg) (nI p) (nI q) i j := by
  have ip : vp_in (nI p) 48 := vp_in_nI hp (by omega)
  have iq : vp_in (nI q) 48 := vp_in_nI hq (by omega)
  have ep : (nI p).toNatClampNeg = p := zc_i (by omega)
  have eq : (nI q).toNatClampNeg = q := zc_i (by omega)
  have d2 : ∀ a b : Int32, 2 * a - 2 * b = 2 * (a - b) := fun a b => by grind
  unfold znr at k
  refine ⟨iq, ip, nm_r (show _ = (2 * (px q - px p)).toInt64 by rw [ep, eq, d2]) ⟨iq, ip, nm_r (show _ = (2 * (py q - py p)).toInt64 by rw [ep, eq, d2]) ⟨ip, nm_r (show _ = (((2 * i) + 1) - (2 * px p)).toInt64 by rw [ep]) ⟨ip, nm_r (show _ = (((2 * j) + 1) - (2 * py p)).toInt64 by rw [ep]) ?_⟩⟩⟩⟩
  generalize (((2 * i) + 1) - (2 * px p)).toInt64 = x at *
  generalize (((2 * j) + 1) - (2 * py p)).toInt64 = y at *
  generalize (2 * (px q - px p)).toInt64 = dx at *
  generalize (2 * (py q - py p)).toInt64 = dy at *
  refine nm_e (nm_e (nm_e ?_))
  unfold znr2 at k
  refine br_c (fun e1 => br_c (fun e2 => nm_e (br_c (fun e3 => ?_) (fun e3 => ?_))) (fun e2 => nm_e (nm_e (br_c (fun e3 => ?_) (fun e3 => ?_))))) (fun e1 => br_c (fun e3 => ?_) (fun e3 => ?_))
  · rw [if_pos e1, if_pos e2, if_pos e3] at k; exact k
  · rw [if_pos e1, if_pos e2, if_neg e3] at k; exact k
  · rw [if_pos e1, if_neg e2, if_pos e3] at k; exact k
  · rw [if_pos e1, if_neg e2, if_neg e3] at k; exact k
  · rw [if_neg e1, if_pos e3] at k; exact k
  · rw [if_neg e1, if_neg e3] at k; exact k
/-! ===== along the path ===== -/
def Zen (pc : Nat) (ss : Nat → Int32) (k : Nat) : Prop := ¬ (k + 1 < pc ∧ ss (k + 1) = 0)
def Znx (pc : Nat) (ss : Nat → Int32) (k : Nat) : Nat := if k + 1 < pc ∧ ss (k + 1) = 0 then k + 1 else Zft ss k
theorem znx_lt {pc k : Nat} (hk : k < pc) : Znx pc ss k < pc := by
  have := zft_le ss k
  unfold Znx
  split <;> omega
theorem x_ends {post : Int32 → Prop} {pc k : Nat} (hP : ZPT pc px py pm qx qy ss cl) (hc : pC = nI pc) (hk : k < pc) (kk : post (if k + 1 < pc ∧ ss (k + 1) = 0 then 0 else 1)) : wpX_endsSubpath post (tc, ob, ps, su, ep, sd, bc, mA, mB, oX, oY, gY, wD, pC, sC, tk, tv, cb, sk, sv, vk, vv, bp, br, bh, bn, bs, bl, px, py, pm, cr, sn, sx, sy, sm, sp, dg) (nI k) := by
  subst hc
  have h48 := hP.1
  show (nI pc ≤ nI k + 1 → post 1) ∧ (¬ nI pc ≤ nI k + 1 → (vp_in (nI k + 1) 48 ∧ ((((pm (nI k + 1).toNatClampNeg) &&& 1) = 0 → post 0) ∧ (¬ ((pm (nI k + 1).toNatClampNeg) &&& 1) = 0 → post 1))))
  rw [nI_1]
  refine pk_le pc (k + 1) (fun e => ?_) (fun e => ?_)
  · rw [if_neg (by omega)] at kk; exact kk
  · obtain ⟨_, _, _, _, hm, _⟩ := hP.2.2 (k + 1) e
    refine ⟨vp_in_nI (by omega) (by omega), ?_⟩
    rw [zc_i (n := k + 1) (by omega), hm]
    refine br_c (fun q => ?_) (fun q => ?_)
    · rw [if_pos ⟨e, zmk_1.mp q⟩] at kk; exact kk
    · rw [if_neg (fun z => q (zmk_1.mpr z.2))] at kk; exact kk
theorem y_next_l {post : Int32 → Prop} {x2 : Int32} (h0 : ss 0 ≠ 0) : ∀ k, k < 240 → post (if x2 = 0 ∧ cl (Zft ss k) = 0 then -1 else nI (Zft ss k)) → wY_next_29 post x2 yt yo yh yi ya ye yp ys yc nw gn bg wd tk tv dg sk sv vk vv hw fr og lf st la fm fc gr wi mn qx qy ss cl cp nx ny (k + 1) (nI k) := by
  intro k
  have fin : ∀ k, k < 240 → post (if x2 = 0 ∧ cl k = 0 then -1 else nI k) → ((x2 = 0 → (vp_in (nI k) 240 ∧ ((cl (nI k).toNatClampNeg = 0 → post (-1)) ∧ (¬ cl (nI k).toNatClampNeg = 0 → post (nI k))))) ∧ (¬ x2 = 0 → post (nI k))) := by
    intro k hk kk
    rw [zc_i (by omega)]
    refine br_c (fun e => ⟨vp_in_nI hk (by omega), br_c (fun e2 => ?_) (fun e2 => ?_)⟩) (fun e => ?_)
    · rw [if_pos ⟨e, e2⟩] at kk; exact kk
    · rw [if_neg (fun z => e2 z.2)] at kk; exact kk
    · rw [if_neg (fun z => e z.1)] at kk; exact kk
  induction k with
  | zero =>
    intro hk kk
    refine ⟨vp_in_nI hk (by omega), br_f (by rw [zc_i (by omega)]; exact h0) (fin 0 hk kk)⟩
  | succ k ih =>
    intro hk kk
    refine ⟨vp_in_nI hk (by omega), ?_⟩
    refine br_c (fun q => ?_) (fun q => ?_)
    · rw [zc_i (n := k + 1) (by omega)] at q
      rw [zft_0 q] at kk
      exact nm_r (pk_m1 k) (ih (by omega) kk)
    · rw [zc_i (n := k + 1) (by omega)] at q
      rw [zft_s q] at kk
      exact fin (k + 1) hk kk
theorem y_next {post : Int32 → Prop} {x2 : Int32} {pc k : Nat} (h0 : ss 0 ≠ 0) (hm : mn 0 = nI pc) (h48 : pc ≤ 48) (hk : k < pc) (kk : post (if (¬ (k + 1 < pc ∧ ss (k + 1) = 0)) ∧ x2 = 0 ∧ cl (Zft ss k) = 0 then -1 else nI (Znx pc ss k))) : wpY_next post (yt, yo, yh, yi, ya, ye, yp, ys, yc, nw, gn, bg, wd, tk, tv, dg, sk, sv, vk, vv, hw, fr, og, lf, st, la, fm, fc, gr, wi, mn, qx, qy, ss, cl, cp, nx, ny) (nI k) x2 := by
  unfold Znx at kk
  show (mn 0 ≤ nI k + 1 → ∃ q, wY_next_29 post x2 yt yo yh yi ya ye yp ys yc nw gn bg wd tk tv dg sk sv vk vv hw fr og lf st la fm fc gr wi mn qx qy ss cl cp nx ny q (nI k)) ∧ (¬ mn 0 ≤ nI k + 1 → (vp_in (nI k + 1) 240 ∧ (((ss (nI k + 1).toNatClampNeg) = 0 → post (nI k + 1)) ∧ (¬ (ss (nI k + 1).toNatClampNeg) = 0 → ∃ q, wY_next_29 post x2 yt yo yh yi ya ye yp ys yc nw gn bg wd tk tv dg sk sv vk vv hw fr og lf st la fm fc gr wi mn qx qy ss cl cp nx ny q (nI k)))))
  rw [nI_1, hm, zc_i (n := k + 1) (by omega)]
  have go : ¬ (k + 1 < pc ∧ ss (k + 1) = 0) → ∃ q, wY_next_29 post x2 yt yo yh yi ya ye yp ys yc nw gn bg wd tk tv dg sk sv vk vv hw fr og lf st la fm fc gr wi mn qx qy ss cl cp nx ny q (nI k) := by
    intro e
    refine ⟨k + 1, y_next_l h0 k (by omega) ?_⟩
    rw [if_neg e] at kk
    by_cases q : x2 = 0 ∧ cl (Zft ss k) = 0
    · rw [if_pos ⟨e, q⟩] at kk; rw [if_pos q]; exact kk
    · rw [if_neg (fun z => q z.2)] at kk; rw [if_neg q]; exact kk
  refine pk_le pc (k + 1) (fun e => go (by omega)) (fun e => ⟨vp_in_nI (by omega) (by omega), br_c (fun q => ?_) (fun q => go (fun z => q z.2))⟩)
  rw [if_neg (fun z => z.1 ⟨e, q⟩), if_pos ⟨e, q⟩] at kk
  exact kk
/-! windings -/
def zwn (pc : Nat) (px py ss : Nat → Int32) (i j : Int32) : Nat → Nat → Int32 → Int32
  | 0, _, x => x
  | d + 1, k, x => zwn pc px py ss i j d (k + 1) (x + zps (px k) (py k) (px (Znx pc ss k)) (py (Znx pc ss k)) i j)
theorem x_wind_l {post : Int32 → Prop} {pc I J : Nat} (hP : ZPT pc px py pm qx qy ss cl) (hc : pC = nI pc) (hI : I < 24) (hJ : J < 24) :
    ∀ (d k f : Nat) (x : Int32), k + d = pc → (ss k = 0 → f = Zft ss k) → post (zwn pc px py ss (nI I) (nI J) d k x) → wX_windingAt_8 post (nI I) (nI J) tc ob ps su ep sd bc mA mB oX oY gY wD pC sC tk tv cb sk sv vk vv bp br bh bn bs bl px py pm cr sn sx sy sm sp dg (d + 1) x (nI f) (nI k) := by
  have h48 := hP.1
  intro d
  induction d with
  | zero =>
    intro k f x hk hf kk
    subst hc
    exact ql_t pc k (by omega) kk
  | succ d ih =>
    intro k f x hk hf kk
    obtain ⟨_, _, _, _, hm, s1, s2⟩ := hP.2.2 k (by omega)
    have hn := znx_lt (ss := ss) (pc := pc) (k := k) (by omega)
    obtain ⟨_, _, _, _, _, s3, s4⟩ := hP.2.2 (Znx pc ss k) hn
    have hl := zft_le ss k
    unfold zwn at kk
    have go : wX_windingAt_33 post (wX_windingAt_8 post (nI I) (nI J) tc ob ps su ep sd bc mA mB oX oY gY wD pC sC tk tv cb sk sv vk vv bp br bh bn bs bl px py pm cr sn sx sy sm sp dg (d + 1)) (nI I) (nI J) x (nI (Zft ss k)) (nI k) tc ob ps su ep sd bc mA mB oX oY gY wD pC sC tk tv cb sk sv vk vv bp br bh bn bs bl px py pm cr sn sx sy sm sp dg := by
      unfold wX_windingAt_33
      refine x_ends hP hc (by omega) ?_
      have g2 : ∀ z : Int32, z = nI (Znx pc ss k) → wX_windingAt_51 post (wX_windingAt_8 post (nI I) (nI J) tc ob ps su ep sd bc mA mB oX oY gY wD pC sC tk tv cb sk sv vk vv bp br bh bn bs bl px py pm cr sn sx sy sm sp dg (d + 1)) (nI I) (nI J) x (nI (Zft ss k)) (nI k) z tc ob ps su ep sd bc mA mB oX oY gY wD pC sC tk tv cb sk sv vk vv bp br bh bn bs bl px py pm cr sn sx sy sm sp dg := by
        intro z hz
        subst hz
        unfold wX_windingAt_51
        exact x_passing (by omega) (by omega) s1 s2 s3 s4 hI hJ (nm_e (nm_r (nI_1 k) (ih (k + 1) _ _ (by omega) (fun e => (zft_0 e).symm) kk)))
      by_cases e : k + 1 < pc ∧ ss (k + 1) = 0
      · rw [if_pos e]
        refine br_t rfl (g2 _ ?_)
        unfold Znx
        rw [if_pos e, nI_1]
      · rw [if_neg e]
        refine br_f (by decide) (g2 _ ?_)
        unfold Znx
        rw [if_neg e]
    have e1 : (nI k).toNatClampNeg = k := zc_i (by omega)
    refine br_f (by rw [hc]; exact nI_ge (by omega) (by omega)) ⟨vp_in_nI (by omega) (by omega), br_c (fun q => ?_) (fun q => ?_)⟩
    · rw [e1, hm] at q
      rw [hf (zmk_1.mp q)]
      exact go
    · rw [e1, hm] at q
      rw [zft_s (fun z => q (zmk_1.mpr z))] at go
      exact go
theorem x_wind {post : Int32 → Prop} {pc I J : Nat} (hP : ZPT pc px py pm qx qy ss cl) (hc : pC = nI pc) (hI : I < 24) (hJ : J < 24) (k : post (zwn pc px py ss (nI I) (nI J) pc 0 0)) : wpX_windingAt post (tc, ob, ps, su, ep, sd, bc, mA, mB, oX, oY, gY, wD, pC, sC, tk, tv, cb, sk, sv, vk, vv, bp, br, bh, bn, bs, bl, px, py, pm, cr, sn, sx, sy, sm, sp, dg) (nI I) (nI J) :=
  ⟨pc + 1, x_wind_l hP hc hI hJ pc 0 0 0 (by omega) (fun _ => rfl) k⟩
theorem y_wind_l {post : Int32 → Prop} {pc : Nat} {i j : Int32} (hP : ZPT pc px py pm qx qy ss cl) (hm : mn 0 = nI pc) :
    ∀ (d k : Nat) (x : Int32), k + d = pc → post (zwn pc px py ss i j d k x) → wY_winding_5 post i j yt yo yh yi ya ye yp ys yc nw gn bg wd tk tv dg sk sv vk vv hw fr og lf st la fm fc gr wi mn qx qy ss cl cp nx ny (d + 1) x (nI k) := by
  have h48 := hP.1
  intro d
  induction d with
  | zero =>
    intro k x hk kk
    exact br_t (by rw [hm]; exact nI_le (by omega) (by omega)) kk
  | succ d ih =>
    intro k x hk kk
    have h0 := hP.2.1 (by omega)
    obtain ⟨x1, x2, _⟩ := hP.2.2 k (by omega)
    have hn := znx_lt (ss := ss) (pc := pc) (k := k) (by omega)
    obtain ⟨x3, x4, _⟩ := hP.2.2 (Znx pc ss k) hn
    unfold zwn at kk
    rw [← x1, ← x2, ← x3, ← x4] at kk
    refine br_f (by rw [hm]; exact nI_ge (by omega) (by omega)) (y_next h0 hm h48 (by omega) ?_)
    rw [if_neg (fun z => absurd z.2.1 (by decide))]
    exact y_passes (by omega) (by omega) (nm_e (nm_r (nI_1 k) (ih (k + 1) _ (by omega) kk)))
theorem y_wind {post : Int32 → Prop} {pc : Nat} {i j : Int32} (hP : ZPT pc px py pm qx qy ss cl) (hm : mn 0 = nI pc) (k : post (zwn pc px py ss i j pc 0 0)) : wpY_winding post (yt, yo, yh, yi, ya, ye, yp, ys, yc, nw, gn, bg, wd, tk, tv, dg, sk, sv, vk, vv, hw, fr, og, lf, st, la, fm, fc, gr, wi, mn, qx, qy, ss, cl, cp, nx, ny) i j :=
  ⟨pc + 1, y_wind_l hP hm pc 0 0 (by omega) k⟩
/-! strokes -/
def zsk (pc : Nat) (px py ss cl : Nat → Int32) (w i j : Int32) : Nat → Nat → Int32
  | 0, _ => 0
  | d + 1, k => if (¬ (k + 1 < pc ∧ ss (k + 1) = 0)) ∧ cl (Zft ss k) = 0 then zsk pc px py ss cl w i j d (k + 1) else if znr w (px k) (py k) (px (Znx pc ss k)) (py (Znx pc ss k)) i j = 0 then zsk pc px py ss cl w i j d (k + 1) else 1
theorem x_stk_l {post : Int32 → Prop} {pc : Nat} {i j : Int32} (hP : ZPT pc px py pm qx qy ss cl) (hc : pC = nI pc) :
    ∀ (d k f : Nat), k + d = pc → (ss k = 0 → f = Zft ss k) → post (zsk pc px py ss cl wD i j d k) → wX_isStroked_5 post i j tc ob ps su ep sd bc mA mB oX oY gY wD pC sC tk tv cb sk sv vk vv bp br bh bn bs bl px py pm cr sn sx sy sm sp dg (d + 1) (nI f) (nI k) := by
  have h48 := hP.1
  intro d
  induction d with
  | zero =>
    intro k f hk hf kk
    subst hc
    exact ql_t pc k (by omega) kk
  | succ d ih =>
    intro k f hk hf kk
    obtain ⟨_, _, _, _, hm, s1, s2⟩ := hP.2.2 k (by omega)
    have hn := znx_lt (ss := ss) (pc := pc) (k := k) (by omega)
    have hl := zft_le ss k
    have e1 : (nI k).toNatClampNeg = k := zc_i (by omega)
    unfold zsk at kk
    have go : wX_isStroked_29 post (wX_isStroked_5 post i j tc ob ps su ep sd bc mA mB oX oY gY wD pC sC tk tv cb sk sv vk vv bp br bh bn bs bl px py pm cr sn sx sy sm sp dg (d + 1)) i j (nI (Zft ss k)) (nI k) tc ob ps su ep sd bc mA mB oX oY gY wD pC sC tk tv cb sk sv vk vv bp br bh bn bs bl px py pm cr sn sx sy sm sp dg := by
      unfold wX_isStroked_29
      refine x_ends hP hc (by omega) ?_
      have nxt : post (zsk pc px py ss cl wD i j d (k + 1)) → wX_isStroked_5 post i j tc ob ps su ep sd bc mA mB oX oY gY wD pC sC tk tv cb sk sv vk vv bp br bh bn bs bl px py pm cr sn sx sy sm sp dg (d + 1) (nI (Zft ss k)) (nI (k + 1)) := fun z => ih (k + 1) _ (by omega) (fun e => (zft_0 e).symm) z
      have g2 : ¬ ((¬ (k + 1 < pc ∧ ss (k + 1) = 0)) ∧ cl (Zft ss k) = 0) → ∀ z : Int32, z = nI (Znx pc ss k) → wX_isStroked_82 post (wX_isStroked_5 post i j tc ob ps su ep sd bc mA mB oX oY gY wD pC sC tk tv cb sk sv vk vv bp br bh bn bs bl px py pm cr sn sx sy sm sp dg (d + 1)) i j (nI (Zft ss k)) (nI k) z (nI k) tc ob ps su ep sd bc mA mB oX oY gY wD pC sC tk tv cb sk sv vk vv bp br bh bn bs bl px py pm cr sn sx sy sm sp dg := by
        intro hne z hz
        subst hz
        rw [if_neg hne] at kk
        unfold wX_isStroked_82
        refine x_isNear (by omega) (by omega) (br_c (fun q => nm_r (nI_1 k) (nxt ?_)) (fun q => ?_))
        · rw [if_pos q] at kk; exact kk
        · rw [if_neg q] at kk; exact kk
      by_cases e : k + 1 < pc ∧ ss (k + 1) = 0
      · rw [if_pos e]
        refine br_t rfl (br_f (by decide) (br_t rfl (g2 (fun z => z.1 e) _ ?_)))
        unfold Znx
        rw [if_pos e, nI_1]
      · rw [if_neg e]
        refine br_f (by decide) ⟨vp_in_nI (by omega) (by omega), br_c (fun q => br_t rfl (nm_r (nI_1 k) (nxt ?_))) (fun q => br_f (by decide) (br_f (by decide) (g2 (fun z => q ?_) _ ?_)))⟩
        · rw [e1, hm] at q
          rw [if_pos ⟨e, zmk_2.mp q⟩] at kk; exact kk
        · rw [e1, hm]
          exact zmk_2.mpr z.2
        · unfold Znx
          rw [if_neg e]
    refine br_f (by rw [hc]; exact nI_ge (by omega) (by omega)) ⟨vp_in_nI (by omega) (by omega), br_c (fun q => ?_) (fun q => ?_)⟩
    · rw [e1, hm] at q
      rw [hf (zmk_1.mp q)]
      exact go
    · rw [e1, hm] at q
      rw [zft_s (fun z => q (zmk_1.mpr z))] at go
      exact go
theorem x_stk {post : Int32 → Prop} {pc : Nat} {i j : Int32} (hP : ZPT pc px py pm qx qy ss cl) (hc : pC = nI pc) (k : post (zsk pc px py ss cl wD i j pc 0)) : wpX_isStroked post (tc, ob, ps, su, ep, sd, bc, mA, mB, oX, oY, gY, wD, pC, sC, tk, tv, cb, sk, sv, vk, vv, bp, br, bh, bn, bs, bl, px, py, pm, cr, sn, sx, sy, sm, sp, dg) i j :=
  ⟨pc + 1, x_stk_l hP hc pc 0 0 (by omega) (fun _ => rfl) k⟩
theorem y_stk_l {post : Int32 → Prop} {pc : Nat} {i j : Int32} (hP : ZPT pc px py pm qx qy ss cl) (hm : mn 0 = nI pc) :
    ∀ (d k : Nat), k + d = pc → post (zsk pc px py ss cl (wi 0) i j d k) → wY_stroked_2 post i j yt yo yh yi ya ye yp ys yc nw gn bg wd tk tv dg sk sv vk vv hw fr og lf st la fm fc gr wi mn qx qy ss cl cp nx ny (d + 1) (nI k) := by
  have h48 := hP.1
  intro d
  induction d with
  | zero =>
    intro k hk kk
    exact br_t (by rw [hm]; exact nI_le (by omega) (by omega)) kk
  | succ d ih =>
    intro k hk kk
    have h0 := hP.2.1 (by omega)
    obtain ⟨x1, x2, _⟩ := hP.2.2 k (by omega)
    have hn := znx_lt (ss := ss) (pc := pc) (k := k) (by omega)
    obtain ⟨x3, x4, _⟩ := hP.2.2 (Znx pc ss k) hn
    unfold zsk at kk
    rw [← x1, ← x2, ← x3, ← x4] at kk
    refine br_f (by rw [hm]; exact nI_ge (by omega) (by omega)) (y_next h0 hm h48 (by omega) ?_)
    by_cases e : (¬ (k + 1 < pc ∧ ss (k + 1) = 0)) ∧ cl (Zft ss k) = 0
    · rw [if_pos e] at kk
      rw [if_pos ⟨e.1, rfl, e.2⟩]
      exact br_t (by decide) (nm_r (nI_1 k) (ih (k + 1) (by omega) kk))
    · rw [if_neg e] at kk
      rw [if_neg (fun z => e ⟨z.1, z.2.2⟩)]
      refine br_f (nI_pos (by omega)) (y_touches (by omega) (by omega) (br_c (fun q => nm_r (nI_1 k) (ih (k + 1) (by omega) ?_)) (fun q => ?_)))
      · rw [if_pos q] at kk; exact kk
      · rw [if_neg q] at kk; exact kk
theorem y_stk {post : Int32 → Prop} {pc : Nat} {i j : Int32} (hP : ZPT pc px py pm qx qy ss cl) (hm : mn 0 = nI pc) (k : post (zsk pc px py ss cl (wi 0) i j pc 0)) : wpY_stroked post (yt, yo, yh, yi, ya, ye, yp, ys, yc, nw, gn, bg, wd, tk, tv, dg, sk, sv, vk, vv, hw, fr, og, lf, st, la, fm, fc, gr, wi, mn, qx, qy, ss, cl, cp, nx, ny) i j :=
  ⟨pc + 1, y_stk_l hP hm pc 0 (by omega) k⟩
end
