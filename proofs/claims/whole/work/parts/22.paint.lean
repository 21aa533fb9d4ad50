/-! ===== rows of dots ===== -/
def zrow (C : Nat → Bool) : Nat → Int32
  | 0 => 0
  | n + 1 => if C n = true then zrow C n ||| ((1 : Int32) <<< (nI n &&& 31)) else zrow C n
theorem zrow_b (C : Nat → Bool) : ∀ n, n ≤ 24 → ∀ b, bt (zrow C n) b = (decide (b < n) && C b) := by
  intro n
  induction n with
  | zero => intro _ b; rw [decide_eq_false (by omega), Bool.false_and]; exact b_0 b
  | succ n ih =>
    intro hn b
    unfold zrow
    by_cases c : C n = true
    · rw [if_pos c, b_or, ih (by omega) b]
      rcases Nat.lt_or_ge b 32 with h | h
      · rw [zb_sh (by omega) h]
        by_cases e : b = n
        · subst e; rw [c]; simp
        · by_cases e2 : b < n
          · rw [decide_eq_true e2, decide_eq_true (by omega : b < n + 1), decide_eq_false e]; simp
          · rw [decide_eq_false e2, decide_eq_false (by omega : ¬ b < n + 1), decide_eq_false e]; simp
      · rw [b_big h, decide_eq_false (by omega : ¬ b < n), decide_eq_false (by omega : ¬ b < n + 1)]; simp
    · rw [if_neg c, ih (by omega) b]
      by_cases e : b = n
      · subst e
        rw [show C b = false by simpa using c]; simp
      · by_cases e2 : b < n
        · rw [decide_eq_true e2, decide_eq_true (by omega : b < n + 1)]
        · rw [decide_eq_false e2, decide_eq_false (by omega : ¬ b < n + 1)]
theorem zb_tst {x : Int32} {n : Nat} (hn : n < 32) : ((x >>> (nI n &&& 31)) &&& 1) = 0 ↔ bt x n = false := by
  have e0 : bt ((x >>> (nI n &&& 31)) &&& 1) 0 = bt x n := by
    rw [b_and, b_sshr n hn x (by omega), if_pos (by omega), zb_one]
    simp
  constructor
  · intro z
    rw [z, b_0] at e0
    exact e0.symm
  · intro z
    apply b_ext
    intro i hi
    by_cases h : i = 0
    · subst h; rw [e0, z, b_0]
    · rw [b_and, zb_one, decide_eq_false h, Bool.and_false, b_0]
theorem zb_par (r : Int32) : (r &&& 1) = 0 ↔ (r - r / 2 * 2) = 0 := by
  have e1 : (r &&& 1) = 0 ↔ r.toBitVec.toNat % 2 = 0 := by
    constructor
    · intro z
      have := congrArg (fun y : Int32 => y.toBitVec.toNat) z
      simp only [Int32.toBitVec_and, BitVec.toNat_and] at this
      rw [show (1 : Int32).toBitVec.toNat = 2 ^ 1 - 1 by decide, Nat.and_two_pow_sub_one_eq_mod, show (0 : Int32).toBitVec.toNat = 0 by decide] at this
      exact this
    · intro z
      apply Int32.toBitVec_inj.mp
      apply BitVec.eq_of_toNat_eq
      rw [Int32.toBitVec_and, BitVec.toNat_and, show (1 : Int32).toBitVec.toNat = 2 ^ 1 - 1 by decide, Nat.and_two_pow_sub_one_eq_mod, show (0 : Int32).toBitVec.toNat = 0 by decide]
      exact z
  have e2 : (r - r / 2 * 2) = 0 ↔ r.toInt.tmod 2 = 0 := by
    rw [← Int32.toInt_inj, rem_toInt, z32_0]
    exact Iff.rfl
  have e3 : r.toInt = r.toBitVec.toInt := rfl
  have e4 := BitVec.toInt_eq_toNat_cond r.toBitVec
  have e5 : r.toInt.tmod 2 = 0 ↔ r.toInt % 2 = 0 := by
    rw [← Int.dvd_iff_tmod_eq_zero, ← Int.dvd_iff_emod_eq_zero]
  rw [e1, e2, e5, e3, e4]
  split <;> omega
def ZC (op pc : Nat) (px py ss cl : Nat → Int32) (w : Int32) (i j : Nat) : Bool :=
  if op = 38 then decide (zsk pc px py ss cl w (nI i) (nI j) pc 0 ≠ 0) else if op = 36 ∨ op = 39 then decide (zwn pc px py ss (nI i) (nI j) pc 0 0 ≠ 0) else decide ((zwn pc px py ss (nI i) (nI j) pc 0 0 &&& 1) ≠ 0)
theorem zsk_01 {pc : Nat} {px py ss cl : Nat → Int32} {w i j : Int32} : ∀ d k, zsk pc px py ss cl w i j d k = 0 ∨ zsk pc px py ss cl w i j d k = 1 := by
  intro d
  induction d with
  | zero => intro k; exact Or.inl rfl
  | succ d ih =>
    intro k
    unfold zsk
    split
    · exact ih _
    · split
      · exact ih _
      · exact Or.inr rfl
section
variable {tc ob ps su ep sd bc mA mB oX oY gY wD pC sC yt yo yh yi ya ye yp ys yc nw gn bg wd : Int32} {tk tv cb sk sv vk vv bp br bh bn bs bl px py pm cr sn sx sy sm sp dg hw fr og lf st la fm fc gr wi mn qx qy ss cl cp nx ny : Nat → Int32}
theorem y_covers {post : Int32 → Prop} {op pc i j : Nat} {W : Int32} (h1 : 36 ≤ op) (h2 : op ≤ 40) (hP : ZPT pc px py pm qx qy ss cl) (hm : mn 0 = nI pc) (hw' : wi 0 = W) (k : post (if ZC op pc px py ss cl W i j = true then 1 else 0)) : wpY_covers post (yt, yo, yh, yi, ya, ye, yp, ys, yc, nw, gn, bg, wd, tk, tv, dg, sk, sv, vk, vv, hw, fr, og, lf, st, la, fm, fc, gr, wi, mn, qx, qy, ss, cl, cp, nx, ny) (nI op) (nI i) (nI j) := by
  subst hw'
  unfold ZC at k
  refine pk_eq op 38 (fun e => y_stk hP hm ?_) (fun e => y_wind hP hm ?_)
  · rw [if_pos e] at k
    rcases zsk_01 (pc := pc) (px := px) (py := py) (ss := ss) (cl := cl) (w := wi 0) (i := nI i) (j := nI j) pc 0 with z | z
    · rw [z] at k ⊢
      exact ⟨rfl, k⟩
    · rw [z] at k ⊢
      exact ⟨rfl, k⟩
  · rw [if_neg e] at k
    generalize zwn pc px py ss (nI i) (nI j) pc 0 0 = r at *
    have t33 : op = 36 ∨ op = 39 → wY_covers_33 post r yt yo yh yi ya ye yp ys yc nw gn bg wd tk tv dg sk sv vk vv hw fr og lf st la fm fc gr wi mn qx qy ss cl cp nx ny := by
      intro q
      rw [if_pos q] at k
      refine br_c (fun z => ?_) (fun z => ?_)
      · rw [z] at k; exact k
      · rw [if_pos (decide_eq_true z)] at k; exact k
    refine pk_eq op 36 (fun q => t33 (Or.inl q)) (fun q => pk_eq op 39 (fun q2 => t33 (Or.inr q2)) (fun q2 => ⟨(by decide), br_c (fun z => ?_) (fun z => ?_)⟩))
    · rw [if_neg (show ¬ (op = 36 ∨ op = 39) from fun z => z.elim q q2), if_neg (by rw [(zb_par r).mpr z]; decide)] at k; exact k
    · rw [if_neg (show ¬ (op = 36 ∨ op = 39) from fun z => z.elim q q2), if_pos (decide_eq_true (show (r &&& 1) ≠ 0 from fun y => z ((zb_par r).mp y)))] at k; exact k
theorem x_insRow {post : Int32 → Prop} {j : Nat} {eo : Int32} {C : Nat → Bool} {Wf : Nat → Int32} (hW : ∀ i, i < 24 → ∀ P : Int32 → Prop, P (Wf i) → wpX_windingAt P (tc, ob, ps, su, ep, sd, bc, mA, mB, oX, oY, gY, wD, pC, sC, tk, tv, cb, sk, sv, vk, vv, bp, br, bh, bn, bs, bl, px, py, pm, cr, sn, sx, sy, sm, sp, dg) (nI i) (nI j)) (h0 : eo = 0 → ∀ i, i < 24 → C i = decide (Wf i ≠ 0)) (h1 : eo ≠ 0 → ∀ i, i < 24 → C i = decide ((Wf i &&& 1) ≠ 0)) (K : post (zrow C 24)) :
    ∀ d i, i + d = 24 → wX_insideRow_5 post (nI j) eo tc ob ps su ep sd bc mA mB oX oY gY wD pC sC tk tv cb sk sv vk vv bp br bh bn bs bl px py pm cr sn sx sy sm sp dg (d + 1) (zrow C i) (nI i) := by
  intro d
  induction d with
  | zero =>
    intro i hi
    have : i = 24 := by omega
    subst this
    exact ql_t 24 24 (by omega) K
  | succ d ih =>
    intro i hi
    have nx1 := ih (i + 1) (by omega)
    have t0 : C i = false → wX_insideRow_50 post (wX_insideRow_5 post (nI j) eo tc ob ps su ep sd bc mA mB oX oY gY wD pC sC tk tv cb sk sv vk vv bp br bh bn bs bl px py pm cr sn sx sy sm sp dg (d + 1)) (nI j) eo (zrow C i) (nI i) 0 tc ob ps su ep sd bc mA mB oX oY gY wD pC sC tk tv cb sk sv vk vv bp br bh bn bs bl px py pm cr sn sx sy sm sp dg := by
      intro c
      unfold zrow at nx1
      rw [if_neg (by rw [c]; decide)] at nx1
      exact br_t rfl (nm_r (nI_1 i) nx1)
    have t1 : C i = true → wX_insideRow_50 post (wX_insideRow_5 post (nI j) eo tc ob ps su ep sd bc mA mB oX oY gY wD pC sC tk tv cb sk sv vk vv bp br bh bn bs bl px py pm cr sn sx sy sm sp dg (d + 1)) (nI j) eo (zrow C i) (nI i) 1 tc ob ps su ep sd bc mA mB oX oY gY wD pC sC tk tv cb sk sv vk vv bp br bh bn bs bl px py pm cr sn sx sy sm sp dg := by
      intro c
      unfold zrow at nx1
      rw [if_pos c] at nx1
      exact br_f (by decide) (nm_e (nm_r (nI_1 i) nx1))
    refine ql_f 24 i (by omega) (hW i (by omega) _ (br_c (fun e => br_c (fun z => t0 ?_) (fun z => t1 ?_)) (fun e => br_c (fun z => t0 ?_) (fun z => t1 ?_))))
    · rw [h0 e i (by omega), z]; decide
    · rw [h0 e i (by omega)]; exact decide_eq_true z
    · rw [h1 e i (by omega), z]; decide
    · rw [h1 e i (by omega)]; exact decide_eq_true z
theorem x_stkRow {post : Int32 → Prop} {j : Nat} {C : Nat → Bool} {Sf : Nat → Int32} (hW : ∀ i, i < 24 → ∀ P : Int32 → Prop, P (Sf i) → wpX_isStroked P (tc, ob, ps, su, ep, sd, bc, mA, mB, oX, oY, gY, wD, pC, sC, tk, tv, cb, sk, sv, vk, vv, bp, br, bh, bn, bs, bl, px, py, pm, cr, sn, sx, sy, sm, sp, dg) (nI i) (nI j)) (h0 : ∀ i, i < 24 → C i = decide (Sf i ≠ 0)) (K : post (zrow C 24)) :
    ∀ d i, i + d = 24 → wX_strokedRow_4 post (nI j) tc ob ps su ep sd bc mA mB oX oY gY wD pC sC tk tv cb sk sv vk vv bp br bh bn bs bl px py pm cr sn sx sy sm sp dg (d + 1) (zrow C i) (nI i) := by
  intro d
  induction d with
  | zero =>
    intro i hi
    have : i = 24 := by omega
    subst this
    exact ql_t 24 24 (by omega) K
  | succ d ih =>
    intro i hi
    have nx1 := ih (i + 1) (by omega)
    unfold zrow at nx1
    refine ql_f 24 i (by omega) (hW i (by omega) _ (br_c (fun z => ?_) (fun z => ?_)))
    · rw [if_neg (by rw [h0 i (by omega), z]; decide)] at nx1
      exact nm_r (nI_1 i) nx1
    · rw [if_pos (by rw [h0 i (by omega)]; exact decide_eq_true z)] at nx1
      exact nm_e (nm_r (nI_1 i) nx1)
theorem x_paintRow_l {post : SX → Prop} {j : Nat} {b : Int32} (hj : j < 24) (K : post (tc, ob, ps, su, ep, sd, bc, mA, mB, oX, oY, gY, wD, pC, sC, tk, tv, cb, sk, sv, vk, vv, bp, br, bh, bn, bs, bl, px, py, pm, cr, sn, sx, sy, sm, sp, zf dg (24 * j) (24 * j + 24) (fun e => if bt b (e - 24 * j) = true then gY else dg e))) :
    ∀ d i, i + d = 24 → wX_paintRow_2 post (nI j) b tc ob ps su ep sd bc mA mB oX oY gY wD pC sC (d + 1) (nI i) tk tv cb sk sv vk vv bp br bh bn bs bl px py pm cr sn sx sy sm sp (zf dg (24 * j) (24 * j + i) (fun e => if bt b (e - 24 * j) = true then gY else dg e)) := by
  intro d
  induction d with
  | zero =>
    intro i hi
    have : i = 24 := by omega
    subst this
    exact ql_t 24 24 (by omega) K
  | succ d ih =>
    intro i hi
    have st := zf_e (a := dg) (j := 24 * j) (e := 24 * j + i) (g := fun e => if bt b (e - 24 * j) = true then gY else dg e) (by omega)
    rw [show 24 * j + i - 24 * j = i by omega] at st
    have nx1 := ih (i + 1) (by omega)
    rw [show 24 * j + (i + 1) = 24 * j + i + 1 by omega, ← st] at nx1
    have e24 : (nI j * 24 + nI i) = nI (24 * j + i) := zm_24 j i
    refine ql_f 24 i (by omega) (br_c (fun z => ?_) (fun z => ?_))
    · rw [zb_tst (by omega)] at z
      rw [if_neg (by rw [z]; decide), zu_self (zf_hi (by omega))] at nx1
      exact nm_r (nI_1 i) nx1
    · rw [zb_tst (by omega)] at z
      rw [if_pos (by simpa using z)] at nx1
      refine ⟨by rw [e24]; exact vp_in_nI (by omega) (by omega), nm_r (show _ = upd (zf dg (24 * j) (24 * j + i) (fun e => if bt b (e - 24 * j) = true then gY else dg e)) (24 * j + i) gY by rw [e24, zc_i (by omega)]) (nm_r (nI_1 i) nx1)⟩
theorem x_paintRow {post : SX → Prop} {j : Nat} {b : Int32} (hj : j < 24) (K : post (tc, ob, ps, su, ep, sd, bc, mA, mB, oX, oY, gY, wD, pC, sC, tk, tv, cb, sk, sv, vk, vv, bp, br, bh, bn, bs, bl, px, py, pm, cr, sn, sx, sy, sm, sp, zf dg (24 * j) (24 * j + 24) (fun e => if bt b (e - 24 * j) = true then gY else dg e))) : wpX_paintRow post (tc, ob, ps, su, ep, sd, bc, mA, mB, oX, oY, gY, wD, pC, sC, tk, tv, cb, sk, sv, vk, vv, bp, br, bh, bn, bs, bl, px, py, pm, cr, sn, sx, sy, sm, sp, dg) (nI j) b := by
  have L := x_paintRow_l hj K 24 0 rfl
  rw [Nat.add_zero (24 * j), zf_z] at L
  exact ⟨25, L⟩
theorem zf_j {f g g' : Nat → Int32} {a b c : Nat} (h1 : a ≤ b) (h2 : b ≤ c) (hg : ∀ e, b ≤ e → e < c → g' e = g e) : zf (zf f a b g) b c g' = zf f a c g := by
  funext e
  unfold zf
  by_cases q : b ≤ e ∧ e < c
  · rw [if_pos q, if_pos (by omega), hg e q.1 q.2]
  · rw [if_neg q]
    by_cases q2 : a ≤ e ∧ e < b
    · rw [if_pos q2, if_pos (by omega)]
    · rw [if_neg q2, if_neg (by omega)]
/-- a row of the component: to what paint_44 asks -/
theorem x_row {post : SX → Prop} {J2 : Int32 → Int32 → Int32 → Int32 → Int32 → Int32 → Int32 → Int32 → Int32 → Int32 → Int32 → Int32 → Int32 → Int32 → Int32 → Int32 → (Nat → Int32) → (Nat → Int32) → (Nat → Int32) → (Nat → Int32) → (Nat → Int32) → (Nat → Int32) → (Nat → Int32) → (Nat → Int32) → (Nat → Int32) → (Nat → Int32) → (Nat → Int32) → (Nat → Int32) → (Nat → Int32) → (Nat → Int32) → (Nat → Int32) → (Nat → Int32) → (Nat → Int32) → (Nat → Int32) → (Nat → Int32) → (Nat → Int32) → (Nat → Int32) → (Nat → Int32) → (Nat → Int32) → Prop} {op pc j : Nat} {W : Int32} (h1 : 36 ≤ op) (h2 : op ≤ 40) (hj : j < 24) (hP : ZPT pc px py pm qx qy ss cl) (hc : pC = nI pc) (hw' : wD = W)
    (k : wX_paint_44 post J2 (nI op) (nI j) (zrow (fun i => ZC op pc px py ss cl W i j) 24) tc ob ps su ep sd bc mA mB oX oY gY wD pC sC tk tv cb sk sv vk vv bp br bh bn bs bl px py pm cr sn sx sy sm sp dg) :
    ((nI op = 38 → (wpX_strokedRow (fun r => wX_paint_44 post J2 (nI op) (nI j) r tc ob ps su ep sd bc mA mB oX oY gY wD pC sC tk tv cb sk sv vk vv bp br bh bn bs bl px py pm cr sn sx sy sm sp dg) (tc, ob, ps, su, ep, sd, bc, mA, mB, oX, oY, gY, wD, pC, sC, tk, tv, cb, sk, sv, vk, vv, bp, br, bh, bn, bs, bl, px, py, pm, cr, sn, sx, sy, sm, sp, dg) (nI j))) ∧ (¬ nI op = 38 → ((nI op = 37 → (wX_paint_36 post J2 (nI op) (nI j) (nI j) tc ob ps su ep sd bc mA mB oX oY gY wD pC sC tk tv cb sk sv vk vv bp br bh bn bs bl px py pm cr sn sx sy sm sp dg)) ∧ (¬ nI op = 37 → ((nI op = 40 → (wX_paint_36 post J2 (nI op) (nI j) (nI j) tc ob ps su ep sd bc mA mB oX oY gY wD pC sC tk tv cb sk sv vk vv bp br bh bn bs bl px py pm cr sn sx sy sm sp dg)) ∧ (¬ nI op = 40 → (wX_paint_41 post J2 (nI op) (nI j) 0 (nI j) tc ob ps su ep sd bc mA mB oX oY gY wD pC sC tk tv cb sk sv vk vv bp br bh bn bs bl px py pm cr sn sx sy sm sp dg))))))) := by
  subst hw'
  have t41 : ∀ eo : Int32, op ≠ 38 → (eo = 0 → op = 36 ∨ op = 39) → (eo ≠ 0 → op ≠ 36 ∧ op ≠ 39) → wX_paint_41 post J2 (nI op) (nI j) eo (nI j) tc ob ps su ep sd bc mA mB oX oY gY wD pC sC tk tv cb sk sv vk vv bp br bh bn bs bl px py pm cr sn sx sy sm sp dg := by
    intro eo n38 q0 q1
    unfold wX_paint_41
    exact ⟨25, x_insRow (C := fun i => ZC op pc px py ss cl wD i j) (Wf := fun i => zwn pc px py ss (nI i) (nI j) pc 0 0) (fun i hi P hp => x_wind hP hc hi hj hp) (fun e i hi => by unfold ZC; rw [if_neg n38, if_pos (q0 e)]) (fun e i hi => by unfold ZC; rw [if_neg n38, if_neg (fun z => z.elim (q1 e).1 (q1 e).2)]) k 24 0 rfl⟩
  refine pk_eq op 38 (fun e => ⟨25, x_stkRow (C := fun i => ZC op pc px py ss cl wD i j) (Sf := fun i => zsk pc px py ss cl wD (nI i) (nI j) pc 0) (fun i hi P hp => x_stk hP hc hp) (fun i hi => by unfold ZC; rw [if_pos e]) k 24 0 rfl⟩) (fun e => pk_eq op 37 (fun e2 => ?_) (fun e2 => pk_eq op 40 (fun e3 => ?_) (fun e3 => t41 0 e (fun _ => by omega) (fun z => absurd rfl z))))
  · unfold wX_paint_36
    exact t41 1 e (fun z => absurd z (by decide)) (fun _ => by omega)
  · unfold wX_paint_36
    exact t41 1 e (fun z => absurd z (by decide)) (fun _ => by omega)
theorem x_paint_a {post : SX → Prop} {op pc : Nat} {W gv : Int32} (h1 : 36 ≤ op) (h2 : op ≤ 38) (hP : ZPT pc px py pm qx qy ss cl) (hc : pC = nI pc) (hw' : wD = W) (hgv : gY = gv) (hC : ZCP cr cp) (K : post (tc, ob, ps, su, ep, sd, bc, mA, mB, oX, oY, gY, wD, 0, sC, tk, tv, cb, sk, sv, vk, vv, bp, br, bh, bn, bs, bl, px, py, pm, cr, sn, sx, sy, sm, sp, zf dg 0 576 (fun e => if ZC op pc px py ss cl W (e % 24) (e / 24) = true ∧ cp e ≠ 0 then gv else dg e))) :
    ∀ d j, j + d = 24 → wX_paint_2 post (nI op) (d + 1) (nI j) tc ob ps su ep sd bc mA mB oX oY gY wD pC sC tk tv cb sk sv vk vv bp br bh bn bs bl px py pm cr sn sx sy sm sp (zf dg 0 (24 * j) (fun e => if ZC op pc px py ss cl W (e % 24) (e / 24) = true ∧ cp e ≠ 0 then gv else dg e)) := by
  subst hgv
  intro d
  induction d with
  | zero =>
    intro j hj
    have : j = 24 := by omega
    subst this
    exact ql_t 24 24 (by omega) (pk_eq op 39 (fun e => by omega) (fun _ => pk_eq op 40 (fun e => by omega) (fun _ => K)))
  | succ d ih =>
    intro j hj
    refine ql_f 24 j (by omega) (x_row h1 (by omega) (by omega) hP hc hw' (pk_eq op 39 (fun e => by omega) (fun _ => pk_eq op 40 (fun e => by omega) (fun _ => ⟨vp_in_nI (by omega) (by omega), x_paintRow (by omega) (nm_r (nI_1 j) ?_)⟩))))
    rw [zf_j (a := 0) (b := 24 * j) (c := 24 * j + 24) (by omega) (by omega) (fun e q1 q2 => ?_)]
    · exact ih (j + 1) (by omega)
    · rw [zc_i (n := j) (by omega), b_and, zrow_b _ 24 (by omega), decide_eq_true (by omega : e - 24 * j < 24), Bool.true_and, ((hC j (by omega)).1 (e - 24 * j) (by omega)).2, show 24 * j + (e - 24 * j) = e by omega, show e % 24 = e - 24 * j by omega, show e / 24 = j by omega, zf_hi q1]
      by_cases c1 : ZC op pc px py ss cl W (e - 24 * j) j = true
      · by_cases c2 : cp e = 0
        · rw [if_neg (by rw [c2]; simp), if_neg (fun z => z.2 c2)]
        · rw [if_pos (by rw [c1, decide_eq_true c2]; rfl), if_pos ⟨c1, c2⟩]
      · rw [if_neg (by rw [show ZC op pc px py ss cl W (e - 24 * j) j = false by simpa using c1]; simp), if_neg (fun z => c1 z.1)]
theorem x_paint_c {post : SX → Prop} {op pc : Nat} {W : Int32} (h1 : 39 ≤ op) (h2 : op ≤ 40) (hP : ZPT pc px py pm qx qy ss cl) (hc : pC = nI pc) (hw' : wD = W) (K : post (tc, ob, ps, su, ep, sd, bc, mA, mB, oX, oY, gY, wD, pC, sC, tk, tv, cb, sk, sv, vk, vv, bp, br, bh, bn, bs, bl, px, py, pm, zf cr 0 24 (fun j => cr j &&& zrow (fun i => ZC op pc px py ss cl W i j) 24), sn, sx, sy, sm, sp, dg)) :
    ∀ d j, j + d = 24 → wX_paint_2 post (nI op) (d + 1) (nI j) tc ob ps su ep sd bc mA mB oX oY gY wD pC sC tk tv cb sk sv vk vv bp br bh bn bs bl px py pm (zf cr 0 j (fun j => cr j &&& zrow (fun i => ZC op pc px py ss cl W i j) 24)) sn sx sy sm sp dg := by
  intro d
  induction d with
  | zero =>
    intro j hj
    have : j = 24 := by omega
    subst this
    exact ql_t 24 24 (by omega) (pk_eq op 39 (fun e => K) (fun e1 => pk_eq op 40 (fun e => K) (fun e2 => by omega)))
  | succ d ih =>
    intro j hj
    have st := zf_e (a := cr) (j := 0) (e := j) (g := (fun j => cr j &&& zrow (fun i => ZC op pc px py ss cl W i j) 24)) (by omega)
    have nx1 := ih (j + 1) (by omega)
    rw [← st] at nx1
    have e : (nI j).toNatClampNeg = j := zc_i (by omega)
    have t57 : wX_paint_57 post (wX_paint_2 post (nI op) (d + 1)) (nI op) (nI j) (zrow (fun i => ZC op pc px py ss cl W i j) 24) tc ob ps su ep sd bc mA mB oX oY gY wD pC sC tk tv cb sk sv vk vv bp br bh bn bs bl px py pm (zf cr 0 j (fun j => cr j &&& zrow (fun i => ZC op pc px py ss cl W i j) 24)) sn sx sy sm sp dg := by
      refine ⟨vp_in_nI (by omega) (by omega), vp_in_nI (by omega) (by omega), nm_r (show _ = upd (zf cr 0 j (fun j => cr j &&& zrow (fun i => ZC op pc px py ss cl W i j) 24)) j (cr j &&& zrow (fun i => ZC op pc px py ss cl W i j) 24) by rw [e, zf_hi (by omega)]) (nm_r (nI_1 j) nx1)⟩
    refine ql_f 24 j (by omega) (x_row (by omega) h2 (by omega) hP hc hw' (pk_eq op 39 (fun _ => t57) (fun e1 => pk_eq op 40 (fun _ => t57) (fun e2 => by omega))))
theorem zd_24 {e : Nat} (he : e < 576) : nI e - nI e / 24 * 24 = nI (e % 24) := pk_rem (d := 24) (by omega) (by omega) (by omega)
theorem zq_24 {e : Nat} (he : e < 576) : nI e / 24 = nI (e / 24) := pk_div (d := 24) (by omega) (by omega) (by omega)
theorem y_paint_a {post : SY → Prop} {op pc : Nat} {W gv : Int32} (h1 : 36 ≤ op) (h2 : op ≤ 38) (hP : ZPT pc px py pm qx qy ss cl) (hm : mn 0 = nI pc) (hw' : wi 0 = W) (hgv : gr 0 = gv) (K : wY_paint_122 post (nI op) yt yo yh yi ya ye yp ys yc nw gn bg wd tk tv (zf dg 0 576 (fun e => if ZC op pc px py ss cl W (e % 24) (e / 24) = true ∧ cp e ≠ 0 then gv else dg e)) sk sv vk vv hw fr og lf st la fm fc gr wi mn qx qy ss cl cp nx ny) :
    ∀ d e, e + d = 576 → wY_paint_45 post (nI op) yt yo yh yi ya ye yp ys yc nw gn bg wd (d + 1) (nI e) tk tv (zf dg 0 e (fun e => if ZC op pc px py ss cl W (e % 24) (e / 24) = true ∧ cp e ≠ 0 then gv else dg e)) sk sv vk vv hw fr og lf st la fm fc gr wi mn qx qy ss cl cp nx ny := by
  intro d
  induction d with
  | zero =>
    intro e he
    have : e = 576 := by omega
    subst this
    exact ql_t 576 576 (by omega) K
  | succ d ih =>
    intro e he
    have st := zf_e (a := dg) (j := 0) (e := e) (g := (fun e => if ZC op pc px py ss cl W (e % 24) (e / 24) = true ∧ cp e ≠ 0 then gv else dg e)) (by omega)
    have nx1 := ih (e + 1) (by omega)
    rw [← st] at nx1
    have ec : (nI e).toNatClampNeg = e := zc_i (by omega)
    refine ql_f 576 e (by omega) ⟨vp_in_nI (by omega) (by omega), br_c (fun z => ?_) (fun z => ⟨(by decide), (by decide), ?_⟩)⟩
    · rw [ec] at z
      rw [if_neg (fun y => y.2 z), zu_self (zf_hi (by omega))] at nx1
      exact nm_r (nI_1 e) nx1
    · rw [ec] at z
      rw [zd_24 (by omega), zq_24 (by omega)]
      refine y_covers h1 (by omega) hP hm hw' (ql_t op 38 h2 (br_c (fun y => ?_) (fun y => ql_t op 38 h2 ⟨vp_in_nI (by omega) (by omega), nm_r (show _ = upd (zf dg 0 e (fun e => if ZC op pc px py ss cl W (e % 24) (e / 24) = true ∧ cp e ≠ 0 then gv else dg e)) e gv by rw [ec, hgv]) (nm_r (nI_1 e) ?_)⟩)))
      · have c : ¬ ZC op pc px py ss cl W (e % 24) (e / 24) = true := fun c => by rw [if_pos c] at y; exact absurd y (by decide)
        rw [if_neg (fun w => c w.1), zu_self (zf_hi (by omega))] at nx1
        exact nm_r (nI_1 e) nx1
      · have c : ZC op pc px py ss cl W (e % 24) (e / 24) = true := by
          by_cases c : ZC op pc px py ss cl W (e % 24) (e / 24) = true
          · exact c
          · rw [if_neg c] at y; exact absurd rfl y
        rw [if_pos ⟨c, z⟩] at nx1
        exact nx1
theorem y_paint_c {post : SY → Prop} {op pc : Nat} {W : Int32} (h1 : 39 ≤ op) (h2 : op ≤ 40) (hP : ZPT pc px py pm qx qy ss cl) (hm : mn 0 = nI pc) (hw' : wi 0 = W) (K : wY_paint_122 post (nI op) yt yo yh yi ya ye yp ys yc nw gn bg wd tk tv dg sk sv vk vv hw fr og lf st la fm fc gr wi mn qx qy ss cl (zf cp 0 576 (fun e => if ZC op pc px py ss cl W (e % 24) (e / 24) = true then cp e else 0)) nx ny) :
    ∀ d e, e + d = 576 → wY_paint_45 post (nI op) yt yo yh yi ya ye yp ys yc nw gn bg wd (d + 1) (nI e) tk tv dg sk sv vk vv hw fr og lf st la fm fc gr wi mn qx qy ss cl (zf cp 0 e (fun e => if ZC op pc px py ss cl W (e % 24) (e / 24) = true then cp e else 0)) nx ny := by
  intro d
  induction d with
  | zero =>
    intro e he
    have : e = 576 := by omega
    subst this
    exact ql_t 576 576 (by omega) K
  | succ d ih =>
    intro e he
    have st := zf_e (a := cp) (j := 0) (e := e) (g := (fun e => if ZC op pc px py ss cl W (e % 24) (e / 24) = true then cp e else 0)) (by omega)
    have nx1 := ih (e + 1) (by omega)
    rw [← st] at nx1
    have ec : (nI e).toNatClampNeg = e := zc_i (by omega)
    refine ql_f 576 e (by omega) ⟨vp_in_nI (by omega) (by omega), br_c (fun z => ?_) (fun z => ⟨(by decide), (by decide), ?_⟩)⟩
    · rw [ec, zf_hi (by omega)] at z
      rw [z, ite_self, zu_self (by rw [zf_hi (by omega)]; exact z)] at nx1
      exact nm_r (nI_1 e) nx1
    · rw [zd_24 (by omega), zq_24 (by omega)]
      refine y_covers (by omega) h2 hP hm hw' (ql_f op 38 (by omega) (br_c (fun y => ?_) (fun y => ql_f op 38 (by omega) ⟨vp_in_nI (by omega) (by omega), nm_r (show _ = upd (zf cp 0 e (fun e => if ZC op pc px py ss cl W (e % 24) (e / 24) = true then cp e else 0)) e 0 by rw [ec, zb_0]) (nm_r (nI_1 e) ?_)⟩)))
      · have c : ZC op pc px py ss cl W (e % 24) (e / 24) = true := by
          by_cases c : ZC op pc px py ss cl W (e % 24) (e / 24) = true
          · exact c
          · rw [if_neg c] at y; exact absurd y (by decide)
        rw [if_pos c, zu_self (zf_hi (by omega))] at nx1
        exact nm_r (nI_1 e) nx1
      · have c : ¬ ZC op pc px py ss cl W (e % 24) (e / 24) = true := fun c => by rw [if_pos c] at y; exact absurd rfl y
        rw [if_neg c] at nx1
        exact nx1
theorem zcp_clip {op pc : Nat} {W : Int32} (hC : ZCP cr cp) : ZCP (zf cr 0 24 (fun j => cr j &&& zrow (fun i => ZC op pc px py ss cl W i j) 24)) (zf cp 0 576 (fun e => if ZC op pc px py ss cl W (e % 24) (e / 24) = true then cp e else 0)) := by
  intro j hj
  have h := hC j hj
  rw [zf_in (by omega) hj]
  refine ⟨fun i hi => ?_, fun i hi => ?_⟩
  · obtain ⟨g1, g2⟩ := h.1 i hi
    rw [zf_in (by omega) (by omega), show (24 * j + i) % 24 = i by omega, show (24 * j + i) / 24 = j by omega, b_and, zrow_b _ 24 (by omega), decide_eq_true hi, Bool.true_and, g2]
    by_cases c : ZC op pc px py ss cl W i j = true
    · rw [if_pos c, c, Bool.and_true]
      exact ⟨g1, rfl⟩
    · rw [if_neg c, show ZC op pc px py ss cl W i j = false by simpa using c, Bool.and_false]
      exact ⟨Or.inl rfl, rfl⟩
  · rw [b_and, h.2 i hi, Bool.false_and]
theorem st_fill {t h n a c s pc : Nat} {PX : Int32 → SX → Prop} (hR : ZR t h n a c mA mB oX oY gY wD pC tk tv cb sk sv vk vv bp br bh bn bs bl px py pm cr sn sx sy sm sp hw fr og lf st la fm fc gr wi mn qx qy ss cl cp) (ha : a < t) (hk : tk a = 1) (hv : tv a = nI 36) (hpc : pC = nI pc) (hp48 : pc ≤ 48) (hE : ZE1 36 h sk pc = 0)
    (H : ∀ (e : Int32) (u' : SX) (v' : SY), ZStep a (s + 1) e u' v' → (∀ PY : SY → Prop, PY v' → wpY_execute PY (nI t, 0, nI h, nI n, nI a, 0, -1, nI (s + 1), nI c, nw, gn, bg, wd, tk, tv, dg, sk, sv, vk, vv, hw, fr, og, lf, st, la, fm, fc, gr, wi, mn, qx, qy, ss, cl, cp, nx, ny)) → PX e u') : wpX_execute PX (nI t, 0, nI a, nI s, -1, nI h, nI n, mA, mB, oX, oY, gY, wD, pC, nI c, tk, tv, cb, sk, sv, vk, vv, bp, br, bh, bn, bs, bl, px, py, pm, cr, sn, sx, sy, sm, sp, dg) (nI a) := by
  have hR' := hR
  obtain ⟨hT, hS, hV, hF, hPO, hG, hSV⟩ := hR
  have ht := hT.1
  have hh := hS.1
  have hmn := zg_mn hG hpc
  have hi : vp_in (nI a) 100 := vp_in_nI (by omega) (by omega)
  have e : (nI a).toNatClampNeg = a := zc_i (by omega)
  have ek : tk (nI a).toNatClampNeg = 1 := by rw [e]; exact hk
  have ev : tv (nI a).toNatClampNeg = nI 36 := by rw [e]; exact hv
  have hpn := po_next hPO ha (by rw [hk]; decide) (by rw [hk]; decide)
  obtain ⟨z1, z2, z3, z4⟩ := ze_0 hE
  have z1 : 0 ≤ h := z1
  have hP := zg_pt hG hpc hp48
  have hgr := hG.2.1
  have hwi := hG.2.2.1
  have hC := hG.2.2.2.2.2
  refine nm_r (nI_1 s) (nm_r (nI_1 a) ⟨hi, br_t ek ⟨hi, nm_r ev (x_oe0 (by decide) hh hp48 rfl hpc hE (br_t rfl (br_t (by decide) (br_f (by decide) (br_f (by decide) (br_f (by decide) (br_t (by decide) (br_f (by decide) (br_f (by decide) (br_f (by decide) (br_f (by decide) (br_f (by decide) (?_)))))))))))))⟩⟩)
  have LX := fun (post : SX → Prop) (K : post (nI t, 0, nI (a + 1), nI (s + 1), -1, nI h, nI n, mA, mB, oX, oY, gY, wD, 0, nI c, tk, tv, cb, sk, sv, vk, vv, bp, br, bh, bn, bs, bl, px, py, pm, cr, sn, sx, sy, sm, sp, zf dg 0 576 (fun e => if ZC 36 pc px py ss cl wD (e % 24) (e / 24) = true ∧ cp e ≠ 0 then gY else dg e))) => x_paint_a (op := 36) (by decide) (by decide) hP hpc rfl rfl hC K 24 0 rfl
  rw [Nat.mul_zero] at LX
  simp only [zf_z] at LX
  refine ⟨25, LX _ (x_153 (n := 0) (by decide) rfl z1 rfl (H 0 _ (nI t, 0, nI h, nI n, nI a + 1, 0, -1, nI (s + 1), nI c, 0, 0, 0, 0, tk, tv, zf dg 0 576 (fun e => if ZC 36 pc px py ss cl wD (e % 24) (e / 24) = true ∧ cp e ≠ 0 then gY else dg e), sk, sv, vk, vv, hw, fr, og, lf, st, la, fm, fc, gr, wi, upd mn 0 0, qx, qy, ss, cl, cp, nx, ny) (zs_ok ⟨hT, hS, hV, hF, hpn, zgs_path (q := 0) hG zpt_0, zsv_up hSV zr_i zr_i zr_i zr_i zr_u zr_i zr_i zr_i zr_i zr_i⟩ rfl (nI_1 a) rfl rfl rfl rfl rfl rfl) (fun PY hp => ?_)))⟩
  refine ⟨hi, nm_r ev ⟨hi, nm_r ek (br_f (by decide) (br_f (by decide) (br_f (by decide) (br_t rfl ?_))))⟩⟩
  unfold wY_execute_245 wpY_operate
  refine y_check (by decide) hh hp48 (zst_k hS) rfl hmn (fun z => absurd hE z) (fun _ z => absurd z (by decide)) (fun _ _ _ => y_ck87 rfl hh z1 hmn hp48 (by decide) (by decide) (by decide) (by decide) (by decide) (by decide) (by decide) (by decide) (by decide) (by decide) (by decide) (y_ck335n (by decide) (by decide) (by decide) (by decide) (by decide) (by decide) (br_t rfl ?_)))
  refine br_t (by decide) (br_t (by decide) (br_t (by decide) (br_f (by decide) (br_f (by decide) (?_)))))
  have LY := fun (post : SY → Prop) (K : wY_paint_122 post (nI 36) (nI t) 0 (nI h) (nI n) (nI a) 0 (-1) (nI (s + 1)) (nI c) 0 0 0 0 tk tv (zf dg 0 576 (fun e => if ZC 36 pc px py ss cl wD (e % 24) (e / 24) = true ∧ cp e ≠ 0 then gY else dg e)) sk sv vk vv hw fr og lf st la fm fc gr wi mn qx qy ss cl cp nx ny) => y_paint_a (op := 36) (by decide) (by decide) hP hmn hwi hgr K 576 0 rfl
  simp only [zf_z] at LY
  exact br_f (by decide) (br_f (by decide) ⟨577, LY _ (br_f (by decide) (nm_e ⟨1, br_f (by decide) (br_f (by decide) (y_p165 (by decide) hp))⟩))⟩)
theorem st_eofill {t h n a c s pc : Nat} {PX : Int32 → SX → Prop} (hR : ZR t h n a c mA mB oX oY gY wD pC tk tv cb sk sv vk vv bp br bh bn bs bl px py pm cr sn sx sy sm sp hw fr og lf st la fm fc gr wi mn qx qy ss cl cp) (ha : a < t) (hk : tk a = 1) (hv : tv a = nI 37) (hpc : pC = nI pc) (hp48 : pc ≤ 48) (hE : ZE1 37 h sk pc = 0)
    (H : ∀ (e : Int32) (u' : SX) (v' : SY), ZStep a (s + 1) e u' v' → (∀ PY : SY → Prop, PY v' → wpY_execute PY (nI t, 0, nI h, nI n, nI a, 0, -1, nI (s + 1), nI c, nw, gn, bg, wd, tk, tv, dg, sk, sv, vk, vv, hw, fr, og, lf, st, la, fm, fc, gr, wi, mn, qx, qy, ss, cl, cp, nx, ny)) → PX e u') : wpX_execute PX (nI t, 0, nI a, nI s, -1, nI h, nI n, mA, mB, oX, oY, gY, wD, pC, nI c, tk, tv, cb, sk, sv, vk, vv, bp, br, bh, bn, bs, bl, px, py, pm, cr, sn, sx, sy, sm, sp, dg) (nI a) := by
  have hR' := hR
  obtain ⟨hT, hS, hV, hF, hPO, hG, hSV⟩ := hR
  have ht := hT.1
  have hh := hS.1
  have hmn := zg_mn hG hpc
  have hi : vp_in (nI a) 100 := vp_in_nI (by omega) (by omega)
  have e : (nI a).toNatClampNeg = a := zc_i (by omega)
  have ek : tk (nI a).toNatClampNeg = 1 := by rw [e]; exact hk
  have ev : tv (nI a).toNatClampNeg = nI 37 := by rw [e]; exact hv
  have hpn := po_next hPO ha (by rw [hk]; decide) (by rw [hk]; decide)
  obtain ⟨z1, z2, z3, z4⟩ := ze_0 hE
  have z1 : 0 ≤ h := z1
  have hP := zg_pt hG hpc hp48
  have hgr := hG.2.1
  have hwi := hG.2.2.1
  have hC := hG.2.2.2.2.2
  refine nm_r (nI_1 s) (nm_r (nI_1 a) ⟨hi, br_t ek ⟨hi, nm_r ev (x_oe0 (by decide) hh hp48 rfl hpc hE (br_t rfl (br_t (by decide) (br_f (by decide) (br_f (by decide) (br_f (by decide) (br_t (by decide) (br_f (by decide) (br_f (by decide) (br_f (by decide) (br_f (by decide) (br_f (by decide) (?_)))))))))))))⟩⟩)
  have LX := fun (post : SX → Prop) (K : post (nI t, 0, nI (a + 1), nI (s + 1), -1, nI h, nI n, mA, mB, oX, oY, gY, wD, 0, nI c, tk, tv, cb, sk, sv, vk, vv, bp, br, bh, bn, bs, bl, px, py, pm, cr, sn, sx, sy, sm, sp, zf dg 0 576 (fun e => if ZC 37 pc px py ss cl wD (e % 24) (e / 24) = true ∧ cp e ≠ 0 then gY else dg e))) => x_paint_a (op := 37) (by decide) (by decide) hP hpc rfl rfl hC K 24 0 rfl
  rw [Nat.mul_zero] at LX
  simp only [zf_z] at LX
  refine ⟨25, LX _ (x_153 (n := 0) (by decide) rfl z1 rfl (H 0 _ (nI t, 0, nI h, nI n, nI a + 1, 0, -1, nI (s + 1), nI c, 0, 0, 0, 0, tk, tv, zf dg 0 576 (fun e => if ZC 37 pc px py ss cl wD (e % 24) (e / 24) = true ∧ cp e ≠ 0 then gY else dg e), sk, sv, vk, vv, hw, fr, og, lf, st, la, fm, fc, gr, wi, upd mn 0 0, qx, qy, ss, cl, cp, nx, ny) (zs_ok ⟨hT, hS, hV, hF, hpn, zgs_path (q := 0) hG zpt_0, zsv_up hSV zr_i zr_i zr_i zr_i zr_u zr_i zr_i zr_i zr_i zr_i⟩ rfl (nI_1 a) rfl rfl rfl rfl rfl rfl) (fun PY hp => ?_)))⟩
  refine ⟨hi, nm_r ev ⟨hi, nm_r ek (br_f (by decide) (br_f (by decide) (br_f (by decide) (br_t rfl ?_))))⟩⟩
  unfold wY_execute_245 wpY_operate
  refine y_check (by decide) hh hp48 (zst_k hS) rfl hmn (fun z => absurd hE z) (fun _ z => absurd z (by decide)) (fun _ _ _ => y_ck87 rfl hh z1 hmn hp48 (by decide) (by decide) (by decide) (by decide) (by decide) (by decide) (by decide) (by decide) (by decide) (by decide) (by decide) (y_ck335n (by decide) (by decide) (by decide) (by decide) (by decide) (by decide) (br_t rfl ?_)))
  refine br_t (by decide) (br_t (by decide) (br_t (by decide) (br_f (by decide) (br_f (by decide) (?_)))))
  have LY := fun (post : SY → Prop) (K : wY_paint_122 post (nI 37) (nI t) 0 (nI h) (nI n) (nI a) 0 (-1) (nI (s + 1)) (nI c) 0 0 0 0 tk tv (zf dg 0 576 (fun e => if ZC 37 pc px py ss cl wD (e % 24) (e / 24) = true ∧ cp e ≠ 0 then gY else dg e)) sk sv vk vv hw fr og lf st la fm fc gr wi mn qx qy ss cl cp nx ny) => y_paint_a (op := 37) (by decide) (by decide) hP hmn hwi hgr K 576 0 rfl
  simp only [zf_z] at LY
  exact br_f (by decide) (br_f (by decide) ⟨577, LY _ (br_f (by decide) (nm_e ⟨1, br_f (by decide) (br_f (by decide) (y_p165 (by decide) hp))⟩))⟩)
theorem st_stroke {t h n a c s pc : Nat} {PX : Int32 → SX → Prop} (hR : ZR t h n a c mA mB oX oY gY wD pC tk tv cb sk sv vk vv bp br bh bn bs bl px py pm cr sn sx sy sm sp hw fr og lf st la fm fc gr wi mn qx qy ss cl cp) (ha : a < t) (hk : tk a = 1) (hv : tv a = nI 38) (hpc : pC = nI pc) (hp48 : pc ≤ 48) (hE : ZE1 38 h sk pc = 0)
    (H : ∀ (e : Int32) (u' : SX) (v' : SY), ZStep a (s + 1) e u' v' → (∀ PY : SY → Prop, PY v' → wpY_execute PY (nI t, 0, nI h, nI n, nI a, 0, -1, nI (s + 1), nI c, nw, gn, bg, wd, tk, tv, dg, sk, sv, vk, vv, hw, fr, og, lf, st, la, fm, fc, gr, wi, mn, qx, qy, ss, cl, cp, nx, ny)) → PX e u') : wpX_execute PX (nI t, 0, nI a, nI s, -1, nI h, nI n, mA, mB, oX, oY, gY, wD, pC, nI c, tk, tv, cb, sk, sv, vk, vv, bp, br, bh, bn, bs, bl, px, py, pm, cr, sn, sx, sy, sm, sp, dg) (nI a) := by
  have hR' := hR
  obtain ⟨hT, hS, hV, hF, hPO, hG, hSV⟩ := hR
  have ht := hT.1
  have hh := hS.1
  have hmn := zg_mn hG hpc
  have hi : vp_in (nI a) 100 := vp_in_nI (by omega) (by omega)
  have e : (nI a).toNatClampNeg = a := zc_i (by omega)
  have ek : tk (nI a).toNatClampNeg = 1 := by rw [e]; exact hk
  have ev : tv (nI a).toNatClampNeg = nI 38 := by rw [e]; exact hv
  have hpn := po_next hPO ha (by rw [hk]; decide) (by rw [hk]; decide)
  obtain ⟨z1, z2, z3, z4⟩ := ze_0 hE
  have z1 : 0 ≤ h := z1
  have hP := zg_pt hG hpc hp48
  have hgr := hG.2.1
  have hwi := hG.2.2.1
  have hC := hG.2.2.2.2.2
  refine nm_r (nI_1 s) (nm_r (nI_1 a) ⟨hi, br_t ek ⟨hi, nm_r ev (x_oe0 (by decide) hh hp48 rfl hpc hE (br_t rfl (br_t (by decide) (br_f (by decide) (br_f (by decide) (br_f (by decide) (br_t (by decide) (br_f (by decide) (br_f (by decide) (br_f (by decide) (br_f (by decide) (br_f (by decide) (?_)))))))))))))⟩⟩)
  have LX := fun (post : SX → Prop) (K : post (nI t, 0, nI (a + 1), nI (s + 1), -1, nI h, nI n, mA, mB, oX, oY, gY, wD, 0, nI c, tk, tv, cb, sk, sv, vk, vv, bp, br, bh, bn, bs, bl, px, py, pm, cr, sn, sx, sy, sm, sp, zf dg 0 576 (fun e => if ZC 38 pc px py ss cl wD (e % 24) (e / 24) = true ∧ cp e ≠ 0 then gY else dg e))) => x_paint_a (op := 38) (by decide) (by decide) hP hpc rfl rfl hC K 24 0 rfl
  rw [Nat.mul_zero] at LX
  simp only [zf_z] at LX
  refine ⟨25, LX _ (x_153 (n := 0) (by decide) rfl z1 rfl (H 0 _ (nI t, 0, nI h, nI n, nI a + 1, 0, -1, nI (s + 1), nI c, 0, 0, 0, 0, tk, tv, zf dg 0 576 (fun e => if ZC 38 pc px py ss cl wD (e % 24) (e / 24) = true ∧ cp e ≠ 0 then gY else dg e), sk, sv, vk, vv, hw, fr, og, lf, st, la, fm, fc, gr, wi, upd mn 0 0, qx, qy, ss, cl, cp, nx, ny) (zs_ok ⟨hT, hS, hV, hF, hpn, zgs_path (q := 0) hG zpt_0, zsv_up hSV zr_i zr_i zr_i zr_i zr_u zr_i zr_i zr_i zr_i zr_i⟩ rfl (nI_1 a) rfl rfl rfl rfl rfl rfl) (fun PY hp => ?_)))⟩
  refine ⟨hi, nm_r ev ⟨hi, nm_r ek (br_f (by decide) (br_f (by decide) (br_f (by decide) (br_t rfl ?_))))⟩⟩
  unfold wY_execute_245 wpY_operate
  refine y_check (by decide) hh hp48 (zst_k hS) rfl hmn (fun z => absurd hE z) (fun _ z => absurd z (by decide)) (fun _ _ _ => y_ck87 rfl hh z1 hmn hp48 (by decide) (by decide) (by decide) (by decide) (by decide) (by decide) (by decide) (by decide) (by decide) (by decide) (by decide) (y_ck335n (by decide) (by decide) (by decide) (by decide) (by decide) (by decide) (br_t rfl ?_)))
  refine br_t (by decide) (br_t (by decide) (br_t (by decide) (br_f (by decide) (br_f (by decide) (?_)))))
  have LY := fun (post : SY → Prop) (K : wY_paint_122 post (nI 38) (nI t) 0 (nI h) (nI n) (nI a) 0 (-1) (nI (s + 1)) (nI c) 0 0 0 0 tk tv (zf dg 0 576 (fun e => if ZC 38 pc px py ss cl wD (e % 24) (e / 24) = true ∧ cp e ≠ 0 then gY else dg e)) sk sv vk vv hw fr og lf st la fm fc gr wi mn qx qy ss cl cp nx ny) => y_paint_a (op := 38) (by decide) (by decide) hP hmn hwi hgr K 576 0 rfl
  simp only [zf_z] at LY
  exact br_f (by decide) (br_f (by decide) ⟨577, LY _ (br_f (by decide) (nm_e ⟨1, br_f (by decide) (br_f (by decide) (y_p165 (by decide) hp))⟩))⟩)
theorem st_clip {t h n a c s pc : Nat} {PX : Int32 → SX → Prop} (hR : ZR t h n a c mA mB oX oY gY wD pC tk tv cb sk sv vk vv bp br bh bn bs bl px py pm cr sn sx sy sm sp hw fr og lf st la fm fc gr wi mn qx qy ss cl cp) (ha : a < t) (hk : tk a = 1) (hv : tv a = nI 39) (hpc : pC = nI pc) (hp48 : pc ≤ 48) (hE : ZE1 39 h sk pc = 0)
    (H : ∀ (e : Int32) (u' : SX) (v' : SY), ZStep a (s + 1) e u' v' → (∀ PY : SY → Prop, PY v' → wpY_execute PY (nI t, 0, nI h, nI n, nI a, 0, -1, nI (s + 1), nI c, nw, gn, bg, wd, tk, tv, dg, sk, sv, vk, vv, hw, fr, og, lf, st, la, fm, fc, gr, wi, mn, qx, qy, ss, cl, cp, nx, ny)) → PX e u') : wpX_execute PX (nI t, 0, nI a, nI s, -1, nI h, nI n, mA, mB, oX, oY, gY, wD, pC, nI c, tk, tv, cb, sk, sv, vk, vv, bp, br, bh, bn, bs, bl, px, py, pm, cr, sn, sx, sy, sm, sp, dg) (nI a) := by
  have hR' := hR
  obtain ⟨hT, hS, hV, hF, hPO, hG, hSV⟩ := hR
  have ht := hT.1
  have hh := hS.1
  have hmn := zg_mn hG hpc
  have hi : vp_in (nI a) 100 := vp_in_nI (by omega) (by omega)
  have e : (nI a).toNatClampNeg = a := zc_i (by omega)
  have ek : tk (nI a).toNatClampNeg = 1 := by rw [e]; exact hk
  have ev : tv (nI a).toNatClampNeg = nI 39 := by rw [e]; exact hv
  have hpn := po_next hPO ha (by rw [hk]; decide) (by rw [hk]; decide)
  obtain ⟨z1, z2, z3, z4⟩ := ze_0 hE
  have z1 : 0 ≤ h := z1
  have hP := zg_pt hG hpc hp48
  have hgr := hG.2.1
  have hwi := hG.2.2.1
  have hC := hG.2.2.2.2.2
  refine nm_r (nI_1 s) (nm_r (nI_1 a) ⟨hi, br_t ek ⟨hi, nm_r ev (x_oe0 (by decide) hh hp48 rfl hpc hE (br_t rfl (br_t (by decide) (br_f (by decide) (br_f (by decide) (br_f (by decide) (br_t (by decide) (br_f (by decide) (br_f (by decide) (br_f (by decide) (br_f (by decide) (br_f (by decide) (?_)))))))))))))⟩⟩)
  have LX := fun (post : SX → Prop) (K : post (nI t, 0, nI (a + 1), nI (s + 1), -1, nI h, nI n, mA, mB, oX, oY, gY, wD, pC, nI c, tk, tv, cb, sk, sv, vk, vv, bp, br, bh, bn, bs, bl, px, py, pm, zf cr 0 24 (fun j => cr j &&& zrow (fun i => ZC 39 pc px py ss cl wD i j) 24), sn, sx, sy, sm, sp, dg)) => x_paint_c (op := 39) (by decide) (by decide) hP hpc rfl K 24 0 rfl
  simp only [zf_z] at LX
  refine ⟨25, LX _ (x_153 (n := 0) (by decide) rfl z1 rfl (H 0 _ (nI t, 0, nI h, nI n, nI a + 1, 0, -1, nI (s + 1), nI c, 0, 0, 0, 0, tk, tv, dg, sk, sv, vk, vv, hw, fr, og, lf, st, la, fm, fc, gr, wi, mn, qx, qy, ss, cl, zf cp 0 576 (fun e => if ZC 39 pc px py ss cl wD (e % 24) (e / 24) = true then cp e else 0), nx, ny) (zs_ok ⟨hT, hS, hV, hF, hpn, zgs_clip hG (zcp_clip hC), zsv_up hSV zr_i zr_i zr_i zr_i zr_i zr_i zr_i zr_i zr_i (fun i hi => zf_hi (by omega))⟩ rfl (nI_1 a) rfl rfl rfl rfl rfl rfl) (fun PY hp => ?_)))⟩
  refine ⟨hi, nm_r ev ⟨hi, nm_r ek (br_f (by decide) (br_f (by decide) (br_f (by decide) (br_t rfl ?_))))⟩⟩
  unfold wY_execute_245 wpY_operate
  refine y_check (by decide) hh hp48 (zst_k hS) rfl hmn (fun z => absurd hE z) (fun _ z => absurd z (by decide)) (fun _ _ _ => y_ck87 rfl hh z1 hmn hp48 (by decide) (by decide) (by decide) (by decide) (by decide) (by decide) (by decide) (by decide) (by decide) (by decide) (by decide) (y_ck335n (by decide) (by decide) (by decide) (by decide) (by decide) (by decide) (br_t rfl ?_)))
  refine br_t (by decide) (br_t (by decide) (br_t (by decide) (br_f (by decide) (br_f (by decide) (?_)))))
  have LY := fun (post : SY → Prop) (K : wY_paint_122 post (nI 39) (nI t) 0 (nI h) (nI n) (nI a) 0 (-1) (nI (s + 1)) (nI c) 0 0 0 0 tk tv dg sk sv vk vv hw fr og lf st la fm fc gr wi mn qx qy ss cl (zf cp 0 576 (fun e => if ZC 39 pc px py ss cl wD (e % 24) (e / 24) = true then cp e else 0)) nx ny) => y_paint_c (op := 39) (by decide) (by decide) hP hmn hwi K 576 0 rfl
  simp only [zf_z] at LY
  exact br_f (by decide) (br_f (by decide) ⟨577, LY _ (br_t (by decide) ⟨1, br_f (by decide) (br_f (by decide) (y_p165 (by decide) hp))⟩)⟩)
theorem st_eoclip {t h n a c s pc : Nat} {PX : Int32 → SX → Prop} (hR : ZR t h n a c mA mB oX oY gY wD pC tk tv cb sk sv vk vv bp br bh bn bs bl px py pm cr sn sx sy sm sp hw fr og lf st la fm fc gr wi mn qx qy ss cl cp) (ha : a < t) (hk : tk a = 1) (hv : tv a = nI 40) (hpc : pC = nI pc) (hp48 : pc ≤ 48) (hE : ZE1 40 h sk pc = 0)
    (H : ∀ (e : Int32) (u' : SX) (v' : SY), ZStep a (s + 1) e u' v' → (∀ PY : SY → Prop, PY v' → wpY_execute PY (nI t, 0, nI h, nI n, nI a, 0, -1, nI (s + 1), nI c, nw, gn, bg, wd, tk, tv, dg, sk, sv, vk, vv, hw, fr, og, lf, st, la, fm, fc, gr, wi, mn, qx, qy, ss, cl, cp, nx, ny)) → PX e u') : wpX_execute PX (nI t, 0, nI a, nI s, -1, nI h, nI n, mA, mB, oX, oY, gY, wD, pC, nI c, tk, tv, cb, sk, sv, vk, vv, bp, br, bh, bn, bs, bl, px, py, pm, cr, sn, sx, sy, sm, sp, dg) (nI a) := by
  have hR' := hR
  obtain ⟨hT, hS, hV, hF, hPO, hG, hSV⟩ := hR
  have ht := hT.1
  have hh := hS.1
  have hmn := zg_mn hG hpc
  have hi : vp_in (nI a) 100 := vp_in_nI (by omega) (by omega)
  have e : (nI a).toNatClampNeg = a := zc_i (by omega)
  have ek : tk (nI a).toNatClampNeg = 1 := by rw [e]; exact hk
  have ev : tv (nI a).toNatClampNeg = nI 40 := by rw [e]; exact hv
  have hpn := po_next hPO ha (by rw [hk]; decide) (by rw [hk]; decide)
  obtain ⟨z1, z2, z3, z4⟩ := ze_0 hE
  have z1 : 0 ≤ h := z1
  have hP := zg_pt hG hpc hp48
  have hgr := hG.2.1
  have hwi := hG.2.2.1
  have hC := hG.2.2.2.2.2
  refine nm_r (nI_1 s) (nm_r (nI_1 a) ⟨hi, br_t ek ⟨hi, nm_r ev (x_oe0 (by decide) hh hp48 rfl hpc hE (br_t rfl (br_t (by decide) (br_f (by decide) (br_f (by decide) (br_f (by decide) (br_t (by decide) (br_f (by decide) (br_f (by decide) (br_f (by decide) (br_f (by decide) (br_f (by decide) (?_)))))))))))))⟩⟩)
  have LX := fun (post : SX → Prop) (K : post (nI t, 0, nI (a + 1), nI (s + 1), -1, nI h, nI n, mA, mB, oX, oY, gY, wD, pC, nI c, tk, tv, cb, sk, sv, vk, vv, bp, br, bh, bn, bs, bl, px, py, pm, zf cr 0 24 (fun j => cr j &&& zrow (fun i => ZC 40 pc px py ss cl wD i j) 24), sn, sx, sy, sm, sp, dg)) => x_paint_c (op := 40) (by decide) (by decide) hP hpc rfl K 24 0 rfl
  simp only [zf_z] at LX
  refine ⟨25, LX _ (x_153 (n := 0) (by decide) rfl z1 rfl (H 0 _ (nI t, 0, nI h, nI n, nI a + 1, 0, -1, nI (s + 1), nI c, 0, 0, 0, 0, tk, tv, dg, sk, sv, vk, vv, hw, fr, og, lf, st, la, fm, fc, gr, wi, mn, qx, qy, ss, cl, zf cp 0 576 (fun e => if ZC 40 pc px py ss cl wD (e % 24) (e / 24) = true then cp e else 0), nx, ny) (zs_ok ⟨hT, hS, hV, hF, hpn, zgs_clip hG (zcp_clip hC), zsv_up hSV zr_i zr_i zr_i zr_i zr_i zr_i zr_i zr_i zr_i (fun i hi => zf_hi (by omega))⟩ rfl (nI_1 a) rfl rfl rfl rfl rfl rfl) (fun PY hp => ?_)))⟩
  refine ⟨hi, nm_r ev ⟨hi, nm_r ek (br_f (by decide) (br_f (by decide) (br_f (by decide) (br_t rfl ?_))))⟩⟩
  unfold wY_execute_245 wpY_operate
  refine y_check (by decide) hh hp48 (zst_k hS) rfl hmn (fun z => absurd hE z) (fun _ z => absurd z (by decide)) (fun _ _ _ => y_ck87 rfl hh z1 hmn hp48 (by decide) (by decide) (by decide) (by decide) (by decide) (by decide) (by decide) (by decide) (by decide) (by decide) (by decide) (y_ck335n (by decide) (by decide) (by decide) (by decide) (by decide) (by decide) (br_t rfl ?_)))
  refine br_t (by decide) (br_t (by decide) (br_t (by decide) (br_f (by decide) (br_f (by decide) (?_)))))
  have LY := fun (post : SY → Prop) (K : wY_paint_122 post (nI 40) (nI t) 0 (nI h) (nI n) (nI a) 0 (-1) (nI (s + 1)) (nI c) 0 0 0 0 tk tv dg sk sv vk vv hw fr og lf st la fm fc gr wi mn qx qy ss cl (zf cp 0 576 (fun e => if ZC 40 pc px py ss cl wD (e % 24) (e / 24) = true then cp e else 0)) nx ny) => y_paint_c (op := 40) (by decide) (by decide) hP hmn hwi K 576 0 rfl
  simp only [zf_z] at LY
  exact br_f (by decide) (br_f (by decide) ⟨577, LY _ (br_t (by decide) ⟨1, br_f (by decide) (br_f (by decide) (y_p165 (by decide) hp))⟩)⟩)
end
