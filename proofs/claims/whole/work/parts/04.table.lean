/-! ===== tables ===== -/
def ztk (op : Nat) : Nat := [2, 2, 2, 2, 2, 1, 2, 2, 1, 1, 2, 1, 0, 0, 1, 2, 3, 2, 4, 1, 0, 0, 0, 2, 1, 0, 1, 1, 0, 2, 2, 2, 2, 6, 0, 0, 0, 0, 0, 0, 0, 0, 0, 2, 4].getD op 0
def zpt (op : Nat) : Nat := if op ≤ 7 ∨ op = 11 ∨ op = 12 ∨ op = 43 then 1 else if op = 9 ∨ op = 10 ∨ op = 35 then 2 else 0
def zpr (op : Nat) : Nat := if op = 16 then 2 else if 14 ≤ op ∧ op ≤ 19 then 1 else 0
def zan (op : Nat) : Bool := decide (7 ≤ op ∧ op ≤ 10)
def zwt (op k : Nat) : Int32 := if k < zpr op then 1 else 0
theorem zh {α : Type} (post : α → Prop) (c : Prop) [Decidable c] (a b : α) : ((c → post a) ∧ (¬ c → post b)) ↔ post (if c then a else b) := by
  by_cases h : c
  · rw [if_pos h]; exact ⟨fun z => z.1 h, fun z => br_t h z⟩
  · rw [if_neg h]; exact ⟨fun z => z.2 h, fun z => br_f h z⟩
theorem ztk_le (op : Nat) : ztk op ≤ 6 := by
  rcases Nat.lt_or_ge op 45 with h | h
  · exact (by decide +kernel : ∀ op, op < 45 → ztk op ≤ 6) op h
  · have : ztk op = 0 := by
      unfold ztk
      rw [List.getD_eq_getElem?_getD, List.getElem?_eq_none (by simpa using h)]
      rfl
    omega
theorem zpt_le (op : Nat) : zpt op ≤ 2 := by
  unfold zpt
  split
  · omega
  · split <;> omega
theorem x_takenBy {post : Int32 → Prop} {op : Nat} (h : op < 45) (k : post (nI (ztk op))) : wpX_takenBy post (nI op) := by
  unfold wpX_takenBy
  exact qs_f op 0 (by omega) (qs_f 44 op (by omega) (pk_eq op 0 (fun e => by subst e; exact k) (fun _ => pk_eq op 1 (fun e => by subst e; exact k) (fun _ => pk_eq op 2 (fun e => by subst e; exact k) (fun _ => pk_eq op 3 (fun e => by subst e; exact k) (fun _ => pk_eq op 4 (fun e => by subst e; exact k) (fun _ => pk_eq op 5 (fun e => by subst e; exact k) (fun _ => pk_eq op 6 (fun e => by subst e; exact k) (fun _ => pk_eq op 7 (fun e => by subst e; exact k) (fun _ => pk_eq op 8 (fun e => by subst e; exact k) (fun _ => pk_eq op 9 (fun e => by subst e; exact k) (fun _ => pk_eq op 10 (fun e => by subst e; exact k) (fun _ => pk_eq op 11 (fun e => by subst e; exact k) (fun _ => pk_eq op 12 (fun e => by subst e; exact k) (fun _ => pk_eq op 13 (fun e => by subst e; exact k) (fun _ => pk_eq op 14 (fun e => by subst e; exact k) (fun _ => pk_eq op 15 (fun e => by subst e; exact k) (fun _ => pk_eq op 16 (fun e => by subst e; exact k) (fun _ => pk_eq op 17 (fun e => by subst e; exact k) (fun _ => pk_eq op 18 (fun e => by subst e; exact k) (fun _ => pk_eq op 19 (fun e => by subst e; exact k) (fun _ => pk_eq op 20 (fun e => by subst e; exact k) (fun _ => pk_eq op 21 (fun e => by subst e; exact k) (fun _ => pk_eq op 22 (fun e => by subst e; exact k) (fun _ => pk_eq op 23 (fun e => by subst e; exact k) (fun _ => pk_eq op 24 (fun e => by subst e; exact k) (fun _ => pk_eq op 25 (fun e => by subst e; exact k) (fun _ => pk_eq op 26 (fun e => by subst e; exact k) (fun _ => pk_eq op 27 (fun e => by subst e; exact k) (fun _ => pk_eq op 28 (fun e => by subst e; exact k) (fun _ => pk_eq op 29 (fun e => by subst e; exact k) (fun _ => pk_eq op 30 (fun e => by subst e; exact k) (fun _ => pk_eq op 31 (fun e => by subst e; exact k) (fun _ => pk_eq op 32 (fun e => by subst e; exact k) (fun _ => pk_eq op 33 (fun e => by subst e; exact k) (fun _ => pk_eq op 34 (fun e => by subst e; exact k) (fun _ => pk_eq op 35 (fun e => by subst e; exact k) (fun _ => pk_eq op 36 (fun e => by subst e; exact k) (fun _ => pk_eq op 37 (fun e => by subst e; exact k) (fun _ => pk_eq op 38 (fun e => by subst e; exact k) (fun _ => pk_eq op 39 (fun e => by subst e; exact k) (fun _ => pk_eq op 40 (fun e => by subst e; exact k) (fun _ => pk_eq op 41 (fun e => by subst e; exact k) (fun _ => pk_eq op 42 (fun e => by subst e; exact k) (fun _ => pk_eq op 43 (fun e => by subst e; exact k) (fun _ => pk_eq op 44 (fun e => by subst e; exact k) (fun _ => trivial)))))))))))))))))))))))))))))))))))))))))))))))
theorem x_procs {post : Int32 → Prop} {op : Nat} (k : post (nI (zpr op))) (h : op < 45) : wpX_proceduresTakenBy post (nI op) := by
  unfold wpX_proceduresTakenBy
  refine pk_lt op 14 (fun h1 => ?_) (fun h1 => pk_lt 19 op (fun h2 => ?_) (fun h2 => pk_eq op 14 (fun e => by subst e; exact k) (fun _ => pk_eq op 15 (fun e => by subst e; exact k) (fun _ => pk_eq op 16 (fun e => by subst e; exact k) (fun _ => pk_eq op 17 (fun e => by subst e; exact k) (fun _ => pk_eq op 18 (fun e => by subst e; exact k) (fun _ => pk_eq op 19 (fun e => by subst e; exact k) (fun _ => trivial))))))))
  · have e : zpr op = 0 := by unfold zpr; rw [if_neg (by omega), if_neg (by omega)]
    rw [e] at k; exact k
  · have e : zpr op = 0 := by unfold zpr; rw [if_neg (by omega), if_neg (by omega)]
    rw [e] at k; exact k
def zyt50 (x : Int32) : Int32 := if x = 5 then 1 else if x = 8 then 1 else if x = 9 then 1 else if x = 11 then 1 else if x = 14 then 1 else if x = 19 then 1 else if x = 24 then 1 else if x = 26 then 1 else if x = 27 then 1 else if x = 16 then 3 else if x = 18 then 4 else if x = 44 then 4 else if x = 33 then 6 else 2
def zyt24 (x : Int32) : Int32 := if x = 25 then 0 else if x = 28 then 0 else if x < 34 then zyt50 x else if 42 < x then zyt50 x else 0
def zyt (x : Int32) : Int32 := if x = 12 then 0 else if x = 13 then 0 else if x < 20 then zyt24 x else if x ≤ 22 then 0 else zyt24 x
theorem y_takes {post : Int32 → Prop} {op : Nat} (h : op < 45) (k : post (nI (ztk op))) : wpY_takes post (nI op) := by
  have e : zyt (nI op) = nI (ztk op) := (by decide +kernel : ∀ op, op < 45 → zyt (nI op) = nI (ztk op)) op h
  rw [← e] at k
  unfold wpY_takes wY_takes_24 wY_takes_50
  simp only [zh post]
  exact k
def zyp (x : Int32) : Int32 := if x = 14 then 1 else if x = 15 then 1 else if x = 17 then 1 else if x = 18 then 1 else if x = 19 then 1 else if x = 16 then 3 else 0
theorem y_procs {post : Int32 → Prop} (x : Int32) (k : post (zyp x)) : wpY_procedures post x := by
  unfold wpY_procedures
  simp only [zh post]
  exact k
def zyu (x : Int32) : Int32 := if x ≤ 7 then 1 else if x = 11 then 1 else if x = 12 then 1 else if x = 43 then 1 else if x = 9 then 2 else if x = 10 then 2 else if x = 35 then 2 else 0
theorem y_puts {post : Int32 → Prop} {op : Nat} (h : op < 45) (k : post (nI (zpt op))) : wpY_puts post (nI op) := by
  have e : zyu (nI op) = nI (zpt op) := (by decide +kernel : ∀ op, op < 45 → zyu (nI op) = nI (zpt op)) op h
  rw [← e] at k
  unfold wpY_puts
  simp only [zh post]
  exact k
theorem x_putBy {post : Int32 → Prop} {op : Nat} (h : op < 45) (k : post (nI (zpt op))) : wpX_putBy post (nI op) := by
  have e : zyu (nI op) = nI (zpt op) := (by decide +kernel : ∀ op, op < 45 → zyu (nI op) = nI (zpt op)) op h
  rw [← e] at k
  unfold wpX_putBy
  simp only [zh post]
  exact k
def zxa (x : Int32) : Int32 := if x = 7 then 1 else if x = 8 then 1 else if x = 9 then 1 else if x = 10 then 1 else 0
theorem x_anyKind {post : Int32 → Prop} {op : Nat} (h : op < 45) (k : post (if zan op then 1 else 0)) : wpX_takesAnyKind post (nI op) := by
  have e : zxa (nI op) = (if zan op then 1 else 0) := (by decide +kernel : ∀ op, op < 45 → zxa (nI op) = (if zan op then 1 else 0)) op h
  rw [← e] at k
  unfold wpX_takesAnyKind
  simp only [zh post]
  exact k
section
variable {tc ob ps su ep sd bc mA mB oX oY gY wD pC sC yt yo yh yi ya ye yp ys yc nw gn bg wd : Int32} {tk tv cb sk sv vk vv bp br bh bn bs bl px py pm cr sn sx sy sm sp dg hw fr og lf st la fm fc gr wi mn qx qy ss cl cp nx ny : Nat → Int32}
theorem x_put {post : Int32 → SX → Prop} {p0 p1 : Int32} {h : Nat} (hs : sd = nI h) (hh : h < 24) (k : post 0 (tc, ob, ps, su, ep, nI (h + 1), bc, mA, mB, oX, oY, gY, wD, pC, sC, tk, tv, cb, upd sk h p0, upd sv h p1, vk, vv, bp, br, bh, bn, bs, bl, px, py, pm, cr, sn, sx, sy, sm, sp, dg)) : wpX_put post (tc, ob, ps, su, ep, sd, bc, mA, mB, oX, oY, gY, wD, pC, sC, tk, tv, cb, sk, sv, vk, vv, bp, br, bh, bn, bs, bl, px, py, pm, cr, sn, sx, sy, sm, sp, dg) p0 p1 := by
  subst hs
  have e : (nI h).toNatClampNeg = h := zc_i (by omega)
  rw [← e] at k
  rw [e] at k
  unfold wpX_put
  refine qs_t h 24 hh ⟨vp_in_nI hh (by omega), nm_r (congrArg (fun q => upd sk q p0) e) ⟨vp_in_nI hh (by omega), nm_r (congrArg (fun q => upd sv q p1) e) (nm_r (nI_1 h) k)⟩⟩
theorem x_putF {post : Int32 → SX → Prop} {p0 p1 : Int32} {h : Nat} (hs : sd = nI h) (hh : h = 24) (k : post 2 (tc, ob, ps, su, ep, sd, bc, mA, mB, oX, oY, gY, wD, pC, sC, tk, tv, cb, sk, sv, vk, vv, bp, br, bh, bn, bs, bl, px, py, pm, cr, sn, sx, sy, sm, sp, dg)) : wpX_put post (tc, ob, ps, su, ep, sd, bc, mA, mB, oX, oY, gY, wD, pC, sC, tk, tv, cb, sk, sv, vk, vv, bp, br, bh, bn, bs, bl, px, py, pm, cr, sn, sx, sy, sm, sp, dg) p0 p1 := by
  subst hs hh
  unfold wpX_put
  exact qs_f 24 24 (by omega) k
theorem y_put {post : SY → Prop} {p0 p1 : Int32} {h : Nat} (hs : yh = nI h) (hh : h < 24) (k : post (yt, yo, nI (h + 1), yi, ya, ye, yp, ys, yc, nw, gn, bg, wd, tk, tv, dg, upd sk h p0, upd sv h p1, vk, vv, hw, fr, og, lf, st, la, fm, fc, gr, wi, mn, qx, qy, ss, cl, cp, nx, ny)) : wpY_put post (yt, yo, yh, yi, ya, ye, yp, ys, yc, nw, gn, bg, wd, tk, tv, dg, sk, sv, vk, vv, hw, fr, og, lf, st, la, fm, fc, gr, wi, mn, qx, qy, ss, cl, cp, nx, ny) p0 p1 := by
  subst hs
  have e : (nI h).toNatClampNeg = h := zc_i (by omega)
  unfold wpY_put
  exact ⟨vp_in_nI hh (by omega), nm_r (congrArg (fun q => upd sk q p0) e) ⟨vp_in_nI hh (by omega), nm_r (congrArg (fun q => upd sv q p1) e) (nm_r (nI_1 h) k)⟩⟩
theorem x_operand {post : Int32 → Prop} {i : Int32} {h j : Nat} (hs : sd = nI h) (hi : i = nI j) (hh : h ≤ 24) (hj : j < h) (k : post (sv (h - 1 - j))) : wpX_operand post (tc, ob, ps, su, ep, sd, bc, mA, mB, oX, oY, gY, wD, pC, sC, tk, tv, cb, sk, sv, vk, vv, bp, br, bh, bn, bs, bl, px, py, pm, cr, sn, sx, sy, sm, sp, dg) i := by
  subst hs hi
  unfold wpX_operand
  refine nm_r (zs_1 hj) (qs_f (h - 1 - j) 0 (by omega) (ql_f 24 (h - 1 - j) (by omega) ⟨vp_in_nI (by omega) (by omega), ?_⟩))
  rw [zc_i (by omega)]
  exact k
theorem x_operandKind {post : Int32 → Prop} {i : Int32} {h j : Nat} (hs : sd = nI h) (hi : i = nI j) (hh : h ≤ 24) (hj : j < h) (k : post (sk (h - 1 - j))) : wpX_operandKind post (tc, ob, ps, su, ep, sd, bc, mA, mB, oX, oY, gY, wD, pC, sC, tk, tv, cb, sk, sv, vk, vv, bp, br, bh, bn, bs, bl, px, py, pm, cr, sn, sx, sy, sm, sp, dg) i := by
  subst hs hi
  unfold wpX_operandKind
  refine nm_r (zs_1 hj) (qs_f (h - 1 - j) 0 (by omega) (ql_f 24 (h - 1 - j) (by omega) ⟨vp_in_nI (by omega) (by omega), ?_⟩))
  rw [zc_i (by omega)]
  exact k
/-- an operand that may not be there: some number -/
theorem x_operandA {post : Int32 → Prop} {i : Int32} {h j : Nat} (hs : sd = nI h) (hi : i = nI j) (hh : h ≤ 24) (hj : j < 24) (k : ∀ x, post x) : wpX_operand post (tc, ob, ps, su, ep, sd, bc, mA, mB, oX, oY, gY, wD, pC, sC, tk, tv, cb, sk, sv, vk, vv, bp, br, bh, bn, bs, bl, px, py, pm, cr, sn, sx, sy, sm, sp, dg) i := by
  subst hs hi
  unfold wpX_operand
  by_cases hjh : j < h
  · refine nm_r (zs_1 hjh) (qs_f (h - 1 - j) 0 (by omega) (ql_f 24 (h - 1 - j) (by omega) ⟨vp_in_nI (by omega) (by omega), k _⟩))
  · refine nm_e (br_t ?_ (k _))
    have e : nI h - 1 - nI j = nI h - nI (j + 1) := by
      rw [← nI_1]; grind
    rw [e]
    exact pk_sneg (by omega) (by omega)
theorem y_top {post : Int32 → Prop} {i : Int32} {h j : Nat} (hs : yh = nI h) (hi : i = nI j) (hh : h ≤ 24) (hj : j < h) (k : post (sv (h - 1 - j))) : wpY_top post (yt, yo, yh, yi, ya, ye, yp, ys, yc, nw, gn, bg, wd, tk, tv, dg, sk, sv, vk, vv, hw, fr, og, lf, st, la, fm, fc, gr, wi, mn, qx, qy, ss, cl, cp, nx, ny) i := by
  subst hs hi
  show vp_in (nI h - 1 - nI j) 24 ∧ post (sv (nI h - 1 - nI j).toNatClampNeg)
  rw [zs_1 hj, zc_i (by omega)]
  exact ⟨vp_in_nI (by omega) (by omega), k⟩
theorem y_isProc {post : Int32 → Prop} {i : Int32} {h j : Nat} (hs : yh = nI h) (hi : i = nI j) (hh : h ≤ 24) (hj : j < h) (k : post (if sk (h - 1 - j) = 1 then 1 else 0)) : wpY_isProcedure post (yt, yo, yh, yi, ya, ye, yp, ys, yc, nw, gn, bg, wd, tk, tv, dg, sk, sv, vk, vv, hw, fr, og, lf, st, la, fm, fc, gr, wi, mn, qx, qy, ss, cl, cp, nx, ny) i := by
  subst hs hi
  show vp_in (nI h - 1 - nI j) 24 ∧ ((sk (nI h - 1 - nI j).toNatClampNeg = 1 → post 1) ∧ (¬ sk (nI h - 1 - nI j).toNatClampNeg = 1 → post 0))
  rw [zs_1 hj, zc_i (by omega)]
  exact ⟨vp_in_nI (by omega) (by omega), (zh post _ _ _).mpr k⟩
end
/-! ===== the errors that are tested first ===== -/
def zmx (op h : Nat) (sk : Nat → Int32) : Nat → Nat → Bool
  | 0, _ => false
  | d + 1, k => if sk (h - 1 - k) = zwt op k then zmx op h sk d (k + 1) else true
theorem zmx_f {op h : Nat} {sk : Nat → Int32} : ∀ d k, zmx op h sk d k = false → ∀ j, k ≤ j → j < k + d → sk (h - 1 - j) = zwt op j := by
  intro d
  induction d with
  | zero => intro k _ j h1 h2; omega
  | succ d ih =>
    intro k hm j h1 h2
    unfold zmx at hm
    by_cases e : sk (h - 1 - k) = zwt op k
    · rw [if_pos e] at hm
      by_cases hj : j = k
      · rw [hj]; exact e
      · exact ih (k + 1) hm j (by omega) (by omega)
    · rw [if_neg e] at hm
      exact absurd hm (by decide)
def ZE1 (op h : Nat) (sk : Nat → Int32) (pc : Nat) : Nat :=
  if h < ztk op then 1 else if zan op = false ∧ zmx op h sk (ztk op) 0 = true then 3 else if 30 ≤ op ∧ op ≤ 35 ∧ pc = 0 then 6 else if 24 < h - ztk op + zpt op then 2 else 0
section
variable {tc ob ps su ep sd bc mA mB oX oY gY wD pC sC yt yo yh yi ya ye yp ys yc nw gn bg wd : Int32} {tk tv cb sk sv vk vv bp br bh bn bs bl px py pm cr sn sx sy sm sp dg hw fr og lf st la fm fc gr wi mn qx qy ss cl cp nx ny : Nat → Int32}
theorem x_oe94 {post : Int32 → Prop} {op h : Nat} (hop : op < 45) (hh : h ≤ 24) (ht : ztk op ≤ h) (k : post (nI (if 24 < h - ztk op + zpt op then 2 else 0))) : wX_operandError_94 post (nI op) (nI (ztk op)) tc ob ps su ep (nI h) bc mA mB oX oY gY wD pC sC tk tv cb sk sv vk vv bp br bh bn bs bl px py pm cr sn sx sy sm sp dg := by
  unfold wX_operandError_94
  refine nm_r (pk_sub ht) (x_putBy hop ?_)
  have := zpt_le op
  rw [nI_add]
  refine pk_le (h - ztk op + zpt op) 24 (fun h1 => ?_) (fun h1 => ?_)
  · rw [if_neg (by omega)] at k; exact k
  · rw [if_pos (by omega)] at k; exact k
theorem x_oe72 {post : Int32 → Prop} {op h pc : Nat} (hop : op < 45) (hh : h ≤ 24) (hp : pc ≤ 48) (ht : ztk op ≤ h) (k : post (nI (if 30 ≤ op ∧ op ≤ 35 ∧ pc = 0 then 6 else if 24 < h - ztk op + zpt op then 2 else 0))) : wX_operandError_72 post (nI op) (nI (ztk op)) tc ob ps su ep (nI h) bc mA mB oX oY gY wD (nI pc) sC tk tv cb sk sv vk vv bp br bh bn bs bl px py pm cr sn sx sy sm sp dg := by
  unfold wX_operandError_72
  refine pk_lt op 30 (fun h1 => ?_) (fun h1 => pk_lt 35 op (fun h2 => ?_) (fun h2 => pk_eq pc 0 (fun h3 => ?_) (fun h3 => ?_)))
  · rw [if_neg (by omega)] at k; exact x_oe94 hop hh ht k
  · rw [if_neg (by omega)] at k; exact x_oe94 hop hh ht k
  · rw [if_pos (by omega)] at k; exact k
  · rw [if_neg (by omega)] at k; exact x_oe94 hop hh ht k
theorem x_oe29 {post : Int32 → Prop} {op h pc : Nat} (hop : op < 45) (hh : h ≤ 24) (hp : pc ≤ 48) (ht : ztk op ≤ h) (hz : zan op = false) :
    ∀ d j, j + d = ztk op → post (nI (if zmx op h sk d j = true then 3 else if 30 ≤ op ∧ op ≤ 35 ∧ pc = 0 then 6 else if 24 < h - ztk op + zpt op then 2 else 0)) →
      wX_operandError_29 post (nI op) (nI (ztk op)) (nI (zpr op)) 0 tc ob ps su ep (nI h) bc mA mB oX oY gY wD (nI pc) sC tk tv cb sk sv vk vv bp br bh bn bs bl px py pm cr sn sx sy sm sp dg (d + 1) (nI j) := by
  intro d
  induction d with
  | zero =>
    intro j hj k
    rw [if_neg (by unfold zmx; decide)] at k
    have := ztk_le op
    exact ql_t (ztk op) j (by omega) (x_oe72 hop hh hp ht k)
  | succ d ih =>
    intro j hj k
    have := ztk_le op
    have hpr : zpr op ≤ 2 := by
      unfold zpr
      split
      · omega
      · split <;> omega
    have go : ∀ z : Int32, z = zwt op j → wX_operandError_51 post (wX_operandError_29 post (nI op) (nI (ztk op)) (nI (zpr op)) 0 tc ob ps su ep (nI h) bc mA mB oX oY gY wD (nI pc) sC tk tv cb sk sv vk vv bp br bh bn bs bl px py pm cr sn sx sy sm sp dg (d + 1)) (nI op) (nI (ztk op)) (nI (zpr op)) 0 (nI j) z tc ob ps su ep (nI h) bc mA mB oX oY gY wD (nI pc) sC tk tv cb sk sv vk vv bp br bh bn bs bl px py pm cr sn sx sy sm sp dg := by
      intro z hz'
      unfold wX_operandError_51
      refine x_operandKind rfl rfl hh (by omega) ?_
      subst hz'
      refine br_c (fun e => ?_) (fun e => ?_)
      · refine nm_r (nI_1 j) (ih (j + 1) (by omega) ?_)
        unfold zmx at k
        rw [if_pos e] at k
        exact k
      · unfold zmx at k
        rw [if_neg e, if_pos rfl] at k
        exact k
    refine ql_f (ztk op) j (by omega) (br_t rfl (pk_le (zpr op) j (fun h1 => go 0 ?_) (fun h1 => go 1 ?_)))
    · unfold zwt; rw [if_neg (by omega)]
    · unfold zwt; rw [if_pos (by omega)]
theorem x_oe {post : Int32 → Prop} {op h pc : Nat} (hop : op < 45) (hh : h ≤ 24) (hp : pc ≤ 48) (hs : sd = nI h) (hc : pC = nI pc) (k : post (nI (ZE1 op h sk pc))) : wpX_operandError post (tc, ob, ps, su, ep, sd, bc, mA, mB, oX, oY, gY, wD, pC, sC, tk, tv, cb, sk, sv, vk, vv, bp, br, bh, bn, bs, bl, px, py, pm, cr, sn, sx, sy, sm, sp, dg) (nI op) := by
  subst hs hc
  unfold wpX_operandError
  have h6 := ztk_le op
  refine x_takenBy hop (pk_le (ztk op) h (fun h1 => x_procs (x_anyKind hop ?_) hop) (fun h1 => ?_))
  · unfold ZE1 at k
    rw [if_neg (by omega)] at k
    by_cases hz : zan op = true
    · rw [if_pos hz]
      rw [if_neg (fun z => by rw [hz] at z; exact absurd z.1 (by decide))] at k
      refine ⟨1, pk_le (ztk op) 0 (fun h2 => x_oe72 hop hh hp h1 k) (fun h2 => br_f (by decide) (x_oe72 hop hh hp h1 k))⟩
    · have hz' : zan op = false := by simpa using hz
      rw [if_neg hz]
      refine ⟨ztk op + 1, x_oe29 hop hh hp h1 hz' (ztk op) 0 (by omega) ?_⟩
      by_cases hm : zmx op h sk (ztk op) 0 = true
      · rw [if_pos ⟨hz', hm⟩] at k; rw [if_pos hm]; exact k
      · rw [if_neg (fun z => hm z.2)] at k; rw [if_neg hm]; exact k
  · unfold ZE1 at k
    rw [if_pos h1] at k
    exact k
end
