/-! ===== the relation ===== -/
/-- the first point of k's subpath -/
def Zft (ss : Nat → Int32) : Nat → Nat
  | 0 => 0
  | k + 1 => if ss (k + 1) = 0 then Zft ss k else k + 1
def Zb2 (x : Int32) : Prop := x = 0 ∨ x = 1
def Zmk (s c : Int32) : Int32 := (if s = 0 then 0 else 1) + (if c = 0 then 0 else 2)
def Zsm (x : Int32) : Prop := -200 ≤ x.toInt ∧ x.toInt ≤ 200
/-- the two paths, as far as they go -/
def ZPT (pc : Nat) (px py pm qx qy ss cl : Nat → Int32) : Prop :=
  pc ≤ 48 ∧ (0 < pc → ss 0 ≠ 0) ∧ ∀ k, k < pc → qx k = px k ∧ qy k = py k ∧ Zb2 (ss k) ∧ Zb2 (cl k) ∧ pm k = Zmk (ss k) (cl (Zft ss k)) ∧ Zsm (px k) ∧ Zsm (py k)
/-- the two clips: a row's bits, and a dot each -/
def ZCP (cr cp : Nat → Int32) : Prop :=
  ∀ j, j < 24 → (∀ i, i < 24 → Zb2 (cp (24 * j + i)) ∧ bt (cr j) i = decide (cp (24 * j + i) ≠ 0)) ∧ ∀ i, 24 ≤ i → bt (cr j) i = false
/-- the two maps -/
def ZGR (a b ox oy : Int32) (f : Nat → Int32) (F : Int32) : Prop :=
  f 0 = a ∧ f 1 = -b ∧ f 2 = ox ∧ f 3 = b ∧ f 4 = a ∧ f 5 = oy ∧ Zsm ox ∧ Zsm oy ∧
  ∃ n : Nat, 1 ≤ n ∧ n ≤ 64 ∧ F = nI n ∧ ((a = nI n ∧ b = 0) ∨ (a = 0 ∧ b = nI n) ∨ (a = -nI n ∧ b = 0) ∨ (a = 0 ∧ b = -nI n))
/-- two graphics states -/
def ZGS (a b ox oy g w m : Int32) (px py pm cr : Nat → Int32) (f : Nat → Int32) (F G W M : Int32) (qx qy ss cl cp : Nat → Int32) : Prop :=
  ZGR a b ox oy f F ∧ G = g ∧ W = w ∧ M = m ∧ (∃ pc : Nat, m = nI pc ∧ ZPT pc px py pm qx qy ss cl) ∧ ZCP cr cp
/-- the saved ones -/
def ZSV (n : Nat) (sn sx sy sm sp fm fc gr wi mn qx qy ss cl cp : Nat → Int32) : Prop :=
  n ≤ 4 ∧ ∀ c, c < n → ZGS (sn (7 * c)) (sn (7 * c + 1)) (sn (7 * c + 2)) (sn (7 * c + 3)) (sn (7 * c + 4)) (sn (7 * c + 5)) (sn (7 * c + 6))
    (fun k => sx (48 * c + k)) (fun k => sy (48 * c + k)) (fun k => sm (48 * c + k)) (fun j => sp (24 * c + j))
    (fun k => fm (6 * (c + 1) + k)) (fc (c + 1)) (gr (c + 1)) (wi (c + 1)) (mn (c + 1))
    (fun k => qx (48 * (c + 1) + k)) (fun k => qy (48 * (c + 1) + k)) (fun k => ss (48 * (c + 1) + k)) (fun k => cl (48 * (c + 1) + k)) (fun d => cp (576 * (c + 1) + d))
/-- a value: a number, or the place of a '{' -/
def ZV (t : Nat) (tk : Nat → Int32) (k v : Int32) : Prop := k = 0 ∨ (k = 1 ∧ ∃ p : Nat, p < t ∧ v = nI p ∧ tk p = 2)
def ZST (t : Nat) (tk : Nat → Int32) (h : Nat) (sk sv : Nat → Int32) : Prop := h ≤ 24 ∧ ∀ k, k < h → ZV t tk (sk k) (sv k)
def ZVR (t : Nat) (tk vk vv : Nat → Int32) : Prop := ∀ k, k < 8 → ZV t tk (vk k) (vv k)
/-- the procedures that have begun -/
def ZFR (t : Nat) (tk cb : Nat → Int32) (n : Nat) (bp br bh bn bs bl hw fr og lf st la : Nat → Int32) : Prop :=
  n ≤ 12 ∧ ∀ k, k < n → (∃ p o : Nat, p < t ∧ tk p = 2 ∧ bp k = nI p ∧ fr k = nI (p + 1) ∧ br k = nI (o + 1) ∧ og k = nI o ∧ ZPO t tk cb bp k (o + 1)) ∧
    hw k = bh k ∧ (bh k = 2 → lf k = bn k ∧ st k = bs k ∧ la k = bl k) ∧ (bh k = 1 → lf k = bn k ∧ bs k = -1 ∧ bl k = 1)
/-- within a run -/
def ZR (t h n a c : Nat) (mA mB oX oY gY wD pC : Int32) (tk tv cb sk sv vk vv bp br bh bn bs bl px py pm cr sn sx sy sm sp hw fr og lf st la fm fc gr wi mn qx qy ss cl cp : Nat → Int32) : Prop :=
  ZTK t 0 tk tv cb ∧ ZST t tk h sk sv ∧ ZVR t tk vk vv ∧ ZFR t tk cb n bp br bh bn bs bl hw fr og lf st la ∧ ZPO t tk cb bp n a ∧
  ZGS mA mB oX oY gY wD pC px py pm cr fm (fc 0) (gr 0) (wi 0) (mn 0) qx qy ss cl cp ∧
  ZSV c sn sx sy sm sp fm fc gr wi mn qx qy ss cl cp
def ZRun (s : Nat) (u : SX) (v : SY) : Prop :=
  match u, v with
  | (tc, ob, ps, su, ep, sd, bc, mA, mB, oX, oY, gY, wD, pC, sC, tk, tv, cb, sk, sv, vk, vv, bp, br, bh, bn, bs, bl, px, py, pm, cr, sn, sx, sy, sm, sp, dg), (yt, yo, yh, yi, ya, ye, yp, ys, yc, nw, gn, bg, wd, tk', tv', dg', sk', sv', vk', vv', hw, fr, og, lf, st, la, fm, fc, gr, wi, mn, qx, qy, ss, cl, cp, nx, ny) =>
    ∃ t h n a c : Nat, (tc = nI t ∧ ob = 0 ∧ ps = nI a ∧ su = nI s ∧ ep = -1 ∧ sd = nI h ∧ bc = nI n ∧ sC = nI c) ∧
      (yt = nI t ∧ yo = 0 ∧ yh = nI h ∧ yi = nI n ∧ ya = nI a ∧ ye = 0 ∧ yp = -1 ∧ ys = nI s ∧ yc = nI c) ∧
      (tk' = tk ∧ tv' = tv ∧ dg' = dg ∧ sk' = sk ∧ sv' = sv ∧ vk' = vk ∧ vv' = vv) ∧
      ZR t h n a c mA mB oX oY gY wD pC tk tv cb sk sv vk vv bp br bh bn bs bl px py pm cr sn sx sy sm sp hw fr og lf st la fm fc gr wi mn qx qy ss cl cp
/-- between two calls, but for the place of the error -/
def ZI0 (u : SX) (v : SY) : Prop :=
  match u, v with
  | (tc, ob, ps, su, ep, sd, bc, mA, mB, oX, oY, gY, wD, pC, sC, tk, tv, cb, sk, sv, vk, vv, bp, br, bh, bn, bs, bl, px, py, pm, cr, sn, sx, sy, sm, sp, dg), (yt, yo, yh, yi, ya, ye, yp, ys, yc, nw, gn, bg, wd, tk', tv', dg', sk', sv', vk', vv', hw, fr, og, lf, st, la, fm, fc, gr, wi, mn, qx, qy, ss, cl, cp, nx, ny) =>
    ∃ t o h : Nat, (tc = nI t ∧ ob = nI o ∧ sd = nI h ∧ h ≤ 24) ∧ (yt = nI t ∧ yo = nI o ∧ yh = nI h ∧ ys = su) ∧
      (tk' = tk ∧ tv' = tv ∧ dg' = dg ∧ sk' = sk ∧ sv' = sv ∧ vk' = vk ∧ vv' = vv) ∧ ZTK t o tk tv cb ∧
      (∃ pc : Nat, pC = nI pc ∧ mn 0 = nI pc ∧ ZPT pc px py pm qx qy ss cl) ∧ ZCP cr cp
def ZI (u : SX) (v : SY) : Prop :=
  ZI0 u v ∧ (match u, v with
  | (tc, ob, ps, su, ep, sd, bc, mA, mB, oX, oY, gY, wD, pC, sC, tk, tv, cb, sk, sv, vk, vv, bp, br, bh, bn, bs, bl, px, py, pm, cr, sn, sx, sy, sm, sp, dg), (yt, yo, yh, yi, ya, ye, yp, ys, yc, nw, gn, bg, wd, tk', tv', dg', sk', sv', vk', vv', hw, fr, og, lf, st, la, fm, fc, gr, wi, mn, qx, qy, ss, cl, cp, nx, ny) => yp = ep)
/-- after a step: the run goes on, or it ends with error e -/
def ZErr (a : Nat) (e : Int32) (u : SX) (v : SY) : Prop :=
  e ≠ 0 ∧ ZI0 u v ∧ (match v with | (yt, yo, yh, yi, ya, ye, yp, ys, yc, nw, gn, bg, wd, tk, tv, dg, sk, sv, vk, vv, hw, fr, og, lf, st, la, fm, fc, gr, wi, mn, qx, qy, ss, cl, cp, nx, ny) => ye = e ∧ ya = nI a ∧ yp = -1 ∧ ∃ t : Nat, yt = nI t)
def ZStep (a s : Nat) (e : Int32) (u : SX) (v : SY) : Prop := (e = 0 ∧ ZRun s u v) ∨ ZErr a e u v
section
variable {tc ob ps su ep sd bc mA mB oX oY gY wD pC sC yt yo yh yi ya ye yp ys yc nw gn bg wd : Int32} {tk tv cb sk sv vk vv bp br bh bn bs bl px py pm cr sn sx sy sm sp dg hw fr og lf st la fm fc gr wi mn qx qy ss cl cp nx ny : Nat → Int32}
theorem zs_ok {t h n a c s a0 : Nat}
    (hR : ZR t h n a c mA mB oX oY gY wD pC tk tv cb sk sv vk vv bp br bh bn bs bl px py pm cr sn sx sy sm sp hw fr og lf st la fm fc gr wi mn qx qy ss cl cp)
    (h1 : ps = nI a) (h2 : ya = nI a) (h3 : sd = nI h) (h4 : yh = nI h) (h5 : bc = nI n) (h6 : yi = nI n) (h7 : sC = nI c) (h8 : yc = nI c) :
    ZStep a0 s 0 (nI t, 0, ps, nI s, -1, sd, bc, mA, mB, oX, oY, gY, wD, pC, sC, tk, tv, cb, sk, sv, vk, vv, bp, br, bh, bn, bs, bl, px, py, pm, cr, sn, sx, sy, sm, sp, dg) (nI t, 0, yh, yi, ya, 0, -1, nI s, yc, nw, gn, bg, wd, tk, tv, dg, sk, sv, vk, vv, hw, fr, og, lf, st, la, fm, fc, gr, wi, mn, qx, qy, ss, cl, cp, nx, ny) :=
  Or.inl ⟨rfl, ⟨t, h, n, a, c, ⟨rfl, rfl, h1, rfl, rfl, h3, h5, h7⟩, ⟨rfl, rfl, h4, h6, h2, rfl, rfl, rfl, h8⟩, ⟨rfl, rfl, rfl, rfl, rfl, rfl, rfl⟩, hR⟩⟩
theorem zs_er {t h n c s a0 : Nat} {e : Int32}
    (hR : ZR t h n a0 c mA mB oX oY gY wD pC tk tv cb sk sv vk vv bp br bh bn bs bl px py pm cr sn sx sy sm sp hw fr og lf st la fm fc gr wi mn qx qy ss cl cp)
    (he : e ≠ 0) {bp' br' bh' bn' bs' bl' : Nat → Int32} :
    ZStep a0 s e (nI t, 0, ps, nI s, ep, nI h, bc, mA, mB, oX, oY, gY, wD, pC, sC, tk, tv, cb, sk, sv, vk, vv, bp', br', bh', bn', bs', bl', px, py, pm, cr, sn, sx, sy, sm, sp, dg) (nI t, 0, nI h, yi, nI a0, e, -1, nI s, yc, nw, gn, bg, wd, tk, tv, dg, sk, sv, vk, vv, hw, fr, og, lf, st, la, fm, fc, gr, wi, mn, qx, qy, ss, cl, cp, nx, ny) := by
  obtain ⟨q1, q2, q3, q4, q5, ⟨q6, q7, q8, q9, ⟨pc, q10, q11⟩, q12⟩, q13⟩ := hR
  exact Or.inr ⟨he, ⟨t, 0, h, ⟨rfl, rfl, rfl, q2.1⟩, ⟨rfl, rfl, rfl, rfl⟩, ⟨rfl, rfl, rfl, rfl, rfl, rfl, rfl⟩, q1, ⟨pc, q10, by rw [q9, q10], q11⟩, q12⟩, ⟨rfl, rfl, rfl, t, rfl⟩⟩
end
def i_Rel (k : Nat) (u : SX) (v : SY) : Prop := ZI u v
theorem i_up {k : Nat} {u : SX} {v : SY} (h : i_Rel k u v) : i_Rel (k + 3) u v := h
