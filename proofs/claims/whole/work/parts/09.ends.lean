theorem z64_i (a : Int32) : a.toInt64.toInt = a.toInt := Int32.toInt_toInt64 a
theorem z64_lo (a : Int32) : -2147483648 ≤ a.toInt := by have := a.le_toInt; simpa using this
theorem z64_hi (a : Int32) : a.toInt ≤ 2147483647 := by have := a.toInt_lt; omega
theorem z64_add (a b : Int32) : (a.toInt64 + b.toInt64).toInt = a.toInt + b.toInt := by
  have h1 := z64_lo a
  have h2 := z64_hi a
  have h3 := z64_lo b
  have h4 := z64_hi b
  rw [Int64.toInt_add, z64_i, z64_i]
  exact Int.bmod_eq_of_le (by omega) (by omega)
theorem z64_32 (a b : Int32) : (a.toInt64 + b.toInt64).toInt32 = a + b := by
  rw [Int64.toInt32_add, Int32.toInt32_toInt64, Int32.toInt32_toInt64]
theorem z64_lt {a b : Int64} : a < b ↔ a.toInt < b.toInt := Int64.lt_iff_toInt_lt
theorem z64_le {a b : Int64} : a ≤ b ↔ a.toInt ≤ b.toInt := Int64.le_iff_toInt_le
theorem z32_0 : (0 : Int32).toInt = 0 := by decide
theorem z32_1 : (1 : Int32).toInt = 1 := by decide
theorem z32_m1 : (-1 : Int32).toInt = -1 := by decide
def zre (x : Int64) (s l : Int32) : Int32 := if s ≤ 0 then (if x < l.toInt64 then 0 else 1) else (if l.toInt64 < x then 0 else 1)
def zry (x s l : Int32) : Int32 := if s ≤ 0 then (if x < l then 0 else 1) else (if l < x then 0 else 1)
theorem zre_i (x s l : Int32) : zre x.toInt64 s l = zry x s l := by
  unfold zre zry
  simp only [z64_lt, z64_i, zt_lt]
theorem x_isReached {post : Int32 → Prop} {x : Int64} {s l : Int32} (k : post (zre x s l)) : wpX_isReached post x s l := by
  unfold wpX_isReached
  simp only [zh post]
  exact k
theorem y_reaches {post : Int32 → Prop} {x s l : Int32} (k : post (zry x s l)) : wpY_reaches post x s l := by
  unfold wpY_reaches
  simp only [zh post]
  exact k
theorem zre_in {a s l : Int32} (h : a.toInt64 + s.toInt64 = (a.toInt64 + s.toInt64).toInt32.toInt64) : zry (a.toInt64 + s.toInt64).toInt32 s l = zre (a.toInt64 + s.toInt64) s l := by
  rw [← zre_i, ← h]
theorem zre_out {a s l : Int32} (h : ¬ a.toInt64 + s.toInt64 = (a.toInt64 + s.toInt64).toInt32.toInt64) : zre (a.toInt64 + s.toInt64) s l = 0 := by
  have hs : ¬ (-2147483648 ≤ a.toInt + s.toInt ∧ a.toInt + s.toInt ≤ 2147483647) := by
    intro z
    apply h
    apply Int64.toInt_inj.mp
    rw [z64_i, z64_32, z64_add, Int32.toInt_add]
    exact (Int.bmod_eq_of_le (by omega) (by omega)).symm
  have h1 := z64_lo a
  have h2 := z64_hi a
  have h3 := z64_lo l
  have h4 := z64_hi l
  unfold zre
  by_cases hs0 : s ≤ 0
  · rw [if_pos hs0, if_pos]
    rw [zt_le, z32_0] at hs0
    rw [z64_lt, z64_add, z64_i]
    omega
  · rw [if_neg hs0, if_pos]
    rw [zt_le, z32_0] at hs0
    rw [z64_lt, z64_add, z64_i]
    omega
theorem zre_rep (a : Int32) : zre (a.toInt64 + (-1 : Int32).toInt64) (-1) 1 = if a ≤ 1 then 0 else 1 := by
  unfold zre
  rw [if_pos (by decide)]
  by_cases h : a ≤ 1
  · rw [if_pos h, if_pos]
    rw [zt_le, z32_1] at h
    rw [z64_lt, z64_add, z64_i, z32_m1, z32_1]
    omega
  · rw [if_neg h, if_neg]
    rw [zt_le, z32_1] at h
    rw [z64_lt, z64_add, z64_i, z32_m1, z32_1]
    omega
theorem zre_01 (x : Int64) (s l : Int32) : zre x s l = 0 ∨ zre x s l = 1 := by
  unfold zre
  split <;> split <;> simp
section
variable {tc ob ps su ep sd bc mA mB oX oY gY wD pC sC yt yo yh yi ya ye yp ys yc nw gn bg wd : Int32} {tk tv cb sk sv vk vv bp br bh bn bs bl px py pm cr sn sx sy sm sp dg hw fr og lf st la fm fc gr wi mn qx qy ss cl cp nx ny : Nat → Int32}
theorem zfr_now {t m : Nat} (hF : ZFR t tk cb (m + 1) bp br bh bn bs bl hw fr og lf st la) {bn' lf' : Nat → Int32} (e1 : ∀ k, k < m → bn' k = bn k) (e2 : ∀ k, k < m → lf' k = lf k) (e3 : bh m = 1 ∨ bh m = 2 → lf' m = bn' m) :
    ZFR t tk cb (m + 1) bp br bh bn' bs bl hw fr og lf' st la := by
  refine ⟨hF.1, fun k hk => ?_⟩
  obtain ⟨a1, a2, a3, a4⟩ := hF.2 k hk
  by_cases e : k = m
  · subst e
    exact ⟨a1, a2, fun z => ⟨e3 (Or.inr z), (a3 z).2⟩, fun z => ⟨e3 (Or.inl z), (a4 z).2⟩⟩
  · refine ⟨a1, a2, fun z => ⟨?_, (a3 z).2⟩, fun z => ⟨?_, (a4 z).2⟩⟩
    · rw [e1 k (by omega), e2 k (by omega)]; exact (a3 z).1
    · rw [e1 k (by omega), e2 k (by omega)]; exact (a4 z).1
theorem po_again {t m p : Nat} (hT : ZTK t 0 tk tv cb) (hp : p < t) (h2 : tk p = 2) (e : bp m = nI p) : ZPO t tk cb bp (m + 1) (p + 1) := by
  have := po_in (bp := bp) (n := m) hT hp h2
  rw [zu_self e] at this
  exact this
theorem x_ep86_0 {post : Int32 → SX → Prop} {m : Nat} {x2 : Int32} {x4 : Int64} (hm : m < 12) (k : post 0 (tc, ob, br m, su, ep, sd, nI m, mA, mB, oX, oY, gY, wD, pC, sC, tk, tv, cb, sk, sv, vk, vv, bp, br, bh, bn, bs, bl, px, py, pm, cr, sn, sx, sy, sm, sp, dg)) : wX_endProcedure_86 post (nI m) x2 x4 0 tc ob ps su ep sd bc mA mB oX oY gY wD pC sC tk tv cb sk sv vk vv bp br bh bn bs bl px py pm cr sn sx sy sm sp dg :=
  br_t rfl ⟨vp_in_nI hm (by omega), nm_r (congrArg br (zc_i (by omega))) k⟩
theorem x_ep86_1 {post : Int32 → SX → Prop} {m p : Nat} {x2 : Int32} {x4 : Int64} (hm : m < 12) (h2 : x2 ≠ 2) (hp : bp m = nI p) (k : post 0 (tc, ob, nI (p + 1), su, ep, sd, bc, mA, mB, oX, oY, gY, wD, pC, sC, tk, tv, cb, sk, sv, vk, vv, bp, br, bh, upd bn m x4.toInt32, bs, bl, px, py, pm, cr, sn, sx, sy, sm, sp, dg)) : wX_endProcedure_86 post (nI m) x2 x4 1 tc ob ps su ep sd bc mA mB oX oY gY wD pC sC tk tv cb sk sv vk vv bp br bh bn bs bl px py pm cr sn sx sy sm sp dg := by
  have e : (nI m).toNatClampNeg = m := zc_i (by omega)
  exact br_f (by decide) ⟨vp_in_nI hm (by omega), nm_r (congrArg (fun q => upd bn q x4.toInt32) e) ⟨vp_in_nI hm (by omega), nm_r (show bp (nI m).toNatClampNeg + 1 = nI (p + 1) by rw [e, hp, nI_1]) (br_f h2 k)⟩⟩
theorem y_be161_0 {post : SY → Prop} {m o : Nat} (hm : m < 12) (ho : og m = nI o) (hyi : yi = nI (m + 1)) (k : post (yt, yo, yh, nI m, nI (o + 1), ye, yp, ys, yc, nw, gn, bg, wd, tk, tv, dg, sk, sv, vk, vv, hw, fr, og, lf, st, la, fm, fc, gr, wi, mn, qx, qy, ss, cl, cp, nx, ny)) : wY_bracketEnds_161 post (nI m) 0 yt yo yh yi ya ye yp ys yc nw gn bg wd tk tv dg sk sv vk vv hw fr og lf st la fm fc gr wi mn qx qy ss cl cp nx ny := by
  subst hyi
  exact br_t rfl (nm_r (nI_pred m) ⟨vp_in_nI hm (by omega), nm_r (show og (nI m).toNatClampNeg + 1 = nI (o + 1) by rw [zc_i (by omega), ho, nI_1]) k⟩)
theorem y_be161_1 {post : SY → Prop} {m p : Nat} {x2 : Int32} (hm : m < 12) (hx : x2 ≠ 0) (hp : fr m = nI (p + 1)) (k : post (yt, yo, yh, yi, nI (p + 1), ye, yp, ys, yc, nw, gn, bg, wd, tk, tv, dg, sk, sv, vk, vv, hw, fr, og, lf, st, la, fm, fc, gr, wi, mn, qx, qy, ss, cl, cp, nx, ny)) : wY_bracketEnds_161 post (nI m) x2 yt yo yh yi ya ye yp ys yc nw gn bg wd tk tv dg sk sv vk vv hw fr og lf st la fm fc gr wi mn qx qy ss cl cp nx ny :=
  br_f hx ⟨vp_in_nI hm (by omega), nm_r (show fr (nI m).toNatClampNeg = nI (p + 1) by rw [zc_i (by omega), hp]) k⟩
theorem st_end {t h n a c s : Nat} {PX : Int32 → SX → Prop} (hR : ZR t h n a c mA mB oX oY gY wD pC tk tv cb sk sv vk vv bp br bh bn bs bl px py pm cr sn sx sy sm sp hw fr og lf st la fm fc gr wi mn qx qy ss cl cp) (ha : a < t) (hk : tk a = 3)
    (H : ∀ (e : Int32) (u' : SX) (v' : SY), ZStep a (s + 1) e u' v' → (∀ PY : SY → Prop, PY v' → wpY_execute PY (nI t, 0, nI h, nI n, nI a, 0, -1, nI (s + 1), nI c, nw, gn, bg, wd, tk, tv, dg, sk, sv, vk, vv, hw, fr, og, lf, st, la, fm, fc, gr, wi, mn, qx, qy, ss, cl, cp, nx, ny)) → PX e u') : wpX_execute PX (nI t, 0, nI a, nI s, -1, nI h, nI n, mA, mB, oX, oY, gY, wD, pC, nI c, tk, tv, cb, sk, sv, vk, vv, bp, br, bh, bn, bs, bl, px, py, pm, cr, sn, sx, sy, sm, sp, dg) (nI a) := by
  obtain ⟨hT, hS, hV, hF, hPO, hG, hSV⟩ := hR
  have hR' : ZR t h n a c mA mB oX oY gY wD pC tk tv cb sk sv vk vv bp br bh bn bs bl px py pm cr sn sx sy sm sp hw fr og lf st la fm fc gr wi mn qx qy ss cl cp := ⟨hT, hS, hV, hF, hPO, hG, hSV⟩
  have ht := hT.1
  have hn := po_end hT hPO ha hk
  obtain ⟨m, rfl⟩ : ∃ m, n = m + 1 := ⟨n - 1, by omega⟩
  have hm : m < 12 := by have := hF.1; omega
  obtain ⟨⟨p, o, hp, hp2, e_bp, e_fr, e_br, e_og, hpo⟩, e_hw, f2, f1⟩ := hF.2 m (by omega)
  have hi : vp_in (nI a) 100 := vp_in_nI (by omega) (by omega)
  have hmi : vp_in (nI m) 12 := vp_in_nI hm (by omega)
  have e : (nI a).toNatClampNeg = a := zc_i (by omega)
  have em : (nI m).toNatClampNeg = m := zc_i (by omega)
  have ek : tk (nI a).toNatClampNeg = 3 := by rw [e]; exact hk
  have ehw : hw (nI m).toNatClampNeg = bh m := by rw [em]; exact e_hw
  refine nm_r (nI_1 s) (nm_r (nI_1 a) ⟨hi, br_f (by rw [ek]; decide) ⟨hi, nm_e ⟨hi, nm_r ek (br_f (by decide) (br_f (by decide) (br_f (by decide) (br_f (by decide) (br_f (by decide) (br_t rfl ?_))))))⟩⟩⟩)
  have Yin : ∀ PY : SY → Prop, (bh m = 3 → wY_bracketEnds_22 PY (nI m) 1 (nI t) 0 (nI h) (nI (m + 1)) (nI a) 0 (-1) (nI (s + 1)) (nI c) nw gn bg wd tk tv dg sk sv vk vv hw fr og lf st la fm fc gr wi mn qx qy ss cl cp nx ny) → (bh m ≠ 3 → wY_bracketEnds_22 PY (nI m) 0 (nI t) 0 (nI h) (nI (m + 1)) (nI a) 0 (-1) (nI (s + 1)) (nI c) nw gn bg wd tk tv dg sk sv vk vv hw fr og lf st la fm fc gr wi mn qx qy ss cl cp nx ny) → wpY_execute PY (nI t, 0, nI h, nI (m + 1), nI a, 0, -1, nI (s + 1), nI c, nw, gn, bg, wd, tk, tv, dg, sk, sv, vk, vv, hw, fr, og, lf, st, la, fm, fc, gr, wi, mn, qx, qy, ss, cl, cp, nx, ny) := by
    intro PY k3 k0
    refine ⟨hi, nm_e ⟨hi, nm_r ek (br_f (by decide) (br_f (by decide) (br_f (by decide) (br_f (by decide) (br_f (by decide) (br_t rfl (nm_r (nI_pred m) ⟨hmi, ?_⟩)))))))⟩⟩
    rw [ehw]
    exact br_c k3 k0
  have hpop : ∀ lf' : Nat → Int32, (∀ k, k < m → lf' k = lf k) → ZR t h m (o + 1) c mA mB oX oY gY wD pC tk tv cb sk sv vk vv bp br bh bn bs bl px py pm cr sn sx sy sm sp hw fr og lf' st la fm fc gr wi mn qx qy ss cl cp := fun lf' el => by
    refine ⟨hT, hS, hV, ?_, hpo, hG, hSV⟩
    have := zfr_now hF (bn' := fun k => if k < m then bn k else lf' k) (lf' := lf') (fun k hk => if_pos hk) el (fun _ => (if_neg (by omega)).symm)
    refine ⟨by omega, fun k hk' => ?_⟩
    have := this.2 k (by omega)
    dsimp only at this
    rw [if_pos hk'] at this
    exact this
  have hag : ∀ bn' lf' : Nat → Int32, (∀ k, k < m → bn' k = bn k) → (∀ k, k < m → lf' k = lf k) → (bh m = 1 ∨ bh m = 2 → lf' m = bn' m) → ZR t h (m + 1) (p + 1) c mA mB oX oY gY wD pC tk tv cb sk sv vk vv bp br bh bn' bs bl px py pm cr sn sx sy sm sp hw fr og lf' st la fm fc gr wi mn qx qy ss cl cp :=
    fun bn' lf' e1 e2 e3 => ⟨hT, hS, hV, zfr_now hF e1 e2 e3, po_again hT hp hp2 e_bp, hG, hSV⟩
  refine nm_r (nI_pred m) (ql_t 0 m (by omega) ⟨hmi, nm_r (congrArg bh em) ⟨hmi, nm_r (congrArg bs em) ⟨hmi, nm_r (show _ = (bn m).toInt64 + (bs m).toInt64 by rw [em]) ?_⟩⟩⟩)
  by_cases c1 : bh m = 1
  · obtain ⟨g1, g2, g3⟩ := f1 c1
    refine br_t c1 (br_f (by decide) ⟨hmi, x_isReached ?_⟩)
    rw [em, g2, g3, zre_rep]
    have elf : lf (nI m).toNatClampNeg = bn m := by rw [em]; exact g1
    by_cases hle : bn m ≤ 1
    · rw [if_pos hle]
      refine x_ep86_0 hm (H 0 _ (nI t, 0, nI h, nI m, nI (o + 1), 0, -1, nI (s + 1), nI c, nw, gn, bg, wd, tk, tv, dg, sk, sv, vk, vv, hw, fr, og, upd lf m (bn m - 1), st, la, fm, fc, gr, wi, mn, qx, qy, ss, cl, cp, nx, ny) (zs_ok (hpop _ (fun k hk => pk_un (by omega))) e_br rfl rfl rfl rfl rfl rfl rfl) (fun PY hp' => Yin PY (fun z => absurd (c1.symm.trans z) (by decide)) (fun _ => ⟨hmi, br_t (ehw.trans c1) ⟨hmi, br_t (by rw [elf]; exact hle) ⟨hmi, hmi, nm_r (show _ = upd lf m (bn m - 1) by rw [em, g1]) ⟨hmi, br_f (by rw [ehw, c1]; decide) (y_be161_0 hm e_og rfl hp')⟩⟩⟩⟩)))
    · rw [if_neg hle]
      refine x_ep86_1 hm (by rw [c1]; decide) e_bp (H 0 _ (nI t, 0, nI h, nI (m + 1), nI (p + 1), 0, -1, nI (s + 1), nI c, nw, gn, bg, wd, tk, tv, dg, sk, sv, vk, vv, hw, fr, og, upd lf m (bn m - 1), st, la, fm, fc, gr, wi, mn, qx, qy, ss, cl, cp, nx, ny) (zs_ok (hag _ _ (fun k hk => pk_un (by omega)) (fun k hk => pk_un (by omega)) (fun _ => ?_)) rfl rfl rfl rfl rfl rfl rfl rfl) (fun PY hp' => Yin PY (fun z => absurd (c1.symm.trans z) (by decide)) (fun _ => ⟨hmi, br_t (ehw.trans c1) ⟨hmi, br_f (by rw [elf]; exact hle) ⟨hmi, hmi, nm_r (show _ = upd lf m (bn m - 1) by rw [em, g1]) ⟨hmi, br_f (by rw [ehw, c1]; decide) (y_be161_1 hm (by decide) e_fr hp')⟩⟩⟩⟩)))
      rw [pk_us, pk_us, z64_32]
      grind
  · by_cases c2 : bh m = 2
    · obtain ⟨g1, g2, g3⟩ := f2 c2
      refine br_f c1 (br_t c2 (br_f (by decide) ⟨hmi, x_isReached ?_⟩))
      have elf : lf (nI m).toNatClampNeg = bn m := by rw [em]; exact g1
      have est : st (nI m).toNatClampNeg = bs m := by rw [em]; exact g2
      have ela : la (nI m).toNatClampNeg = bl m := by rw [em]; exact g3
      rw [em]
      have Y59 : ∀ PY : SY → Prop, wY_bracketEnds_118 PY (nI m) ((bn m).toInt64 + (bs m).toInt64) (zre ((bn m).toInt64 + (bs m).toInt64) (bs m) (bl m)) (nI t) 0 (nI h) (nI (m + 1)) (nI a) 0 (-1) (nI (s + 1)) (nI c) nw gn bg wd tk tv dg sk sv vk vv hw fr og lf st la fm fc gr wi mn qx qy ss cl cp nx ny → wpY_execute PY (nI t, 0, nI h, nI (m + 1), nI a, 0, -1, nI (s + 1), nI c, nw, gn, bg, wd, tk, tv, dg, sk, sv, vk, vv, hw, fr, og, lf, st, la, fm, fc, gr, wi, mn, qx, qy, ss, cl, cp, nx, ny) := by
        intro PY k
        refine Yin PY (fun z => absurd (c2.symm.trans z) (by decide)) (fun _ => ⟨hmi, br_f (by rw [ehw]; exact c1) ⟨hmi, br_t (ehw.trans c2) ⟨hmi, hmi, nm_r (show _ = (bn m).toInt64 + (bs m).toInt64 by rw [elf, est]) (br_c (fun hin => ⟨hmi, hmi, ?_⟩) (fun hout => ?_))⟩⟩⟩)
        · rw [est, ela]
          refine y_reaches ?_
          rw [zre_in hin]
          rcases zre_01 ((bn m).toInt64 + (bs m).toInt64) (bs m) (bl m) with z | z
          · rw [z] at k ⊢
            exact br_t rfl k
          · rw [z] at k ⊢
            exact br_f (by decide) k
        · rw [zre_out hout] at k
          exact k
      rcases zre_01 ((bn m).toInt64 + (bs m).toInt64) (bs m) (bl m) with z | z
      · rw [z] at Y59 ⊢
        refine x_ep86_0 hm (H 0 _ (nI t, 0, nI h, nI m, nI (o + 1), 0, -1, nI (s + 1), nI c, nw, gn, bg, wd, tk, tv, dg, sk, sv, vk, vv, hw, fr, og, lf, st, la, fm, fc, gr, wi, mn, qx, qy, ss, cl, cp, nx, ny) (zs_ok (hpop _ (fun k hk => rfl)) e_br rfl rfl rfl rfl rfl rfl rfl) (fun PY hp' => Y59 PY (br_t rfl (br_t rfl (y_be161_0 hm e_og rfl hp')))))
      · rw [z] at Y59 ⊢
        refine br_f (by decide) ⟨hmi, nm_r (congrArg (fun q => upd bn q _) em) ⟨hmi, nm_r (show bp (nI m).toNatClampNeg + 1 = nI (p + 1) by rw [em, e_bp, nI_1]) (br_t c2 ?_)⟩⟩
        by_cases h24 : h = 24
        · refine x_putF rfl h24 (H 2 _ (nI t, 0, nI h, nI (m + 1), nI a, 2, -1, nI (s + 1), nI c, nw, gn, bg, wd, tk, tv, dg, sk, sv, vk, vv, hw, fr, og, lf, st, la, fm, fc, gr, wi, mn, qx, qy, ss, cl, cp, nx, ny) (zs_er hR' (by decide)) (fun PY hp' => Y59 PY (br_f (by decide) (br_t (by rw [h24]; rfl) hp'))))
        · have hh : h < 24 := by have := hS.1; omega
          have hne : ¬ nI h = 24 := fun z => h24 ((nI_eq (b := 24) (by omega) (by omega)).mp z)
          refine x_put rfl hh (H 0 _ (nI t, 0, nI (h + 1), nI (m + 1), nI (p + 1), 0, -1, nI (s + 1), nI c, nw, gn, bg, wd, tk, tv, dg, upd sk h 0, upd sv h ((bn m).toInt64 + (bs m).toInt64).toInt32, vk, vv, hw, fr, og, upd lf m ((bn m).toInt64 + (bs m).toInt64).toInt32, st, la, fm, fc, gr, wi, mn, qx, qy, ss, cl, cp, nx, ny) (zs_ok ?_ rfl rfl rfl rfl rfl rfl rfl rfl) (fun PY hp' => Y59 PY (br_f (by decide) (br_f hne (br_f (by decide) ⟨hmi, nm_r (congrArg (fun q => upd lf q _) em) ⟨hmi, ?_⟩⟩)))))
          · obtain ⟨q1, q2, q3, q4, q5, q6, q7⟩ := hag (upd bn m ((bn m).toInt64 + (bs m).toInt64).toInt32) (upd lf m ((bn m).toInt64 + (bs m).toInt64).toInt32) (fun k hk => pk_un (by omega)) (fun k hk => pk_un (by omega)) (fun _ => by rw [pk_us, pk_us])
            exact ⟨q1, zst_put hS hh zv_0, q3, q4, q5, q6, q7⟩
          · rw [em, pk_us]
            exact y_put rfl hh (y_be161_1 hm (by decide) e_fr hp')
    · refine br_f c1 (br_f c2 (br_t rfl ?_))
      by_cases c3 : bh m = 3
      · refine br_t c3 (x_ep86_1 hm c2 e_bp (H 0 _ (nI t, 0, nI h, nI (m + 1), nI (p + 1), 0, -1, nI (s + 1), nI c, nw, gn, bg, wd, tk, tv, dg, sk, sv, vk, vv, hw, fr, og, lf, st, la, fm, fc, gr, wi, mn, qx, qy, ss, cl, cp, nx, ny) (zs_ok (hag _ _ (fun k hk => pk_un (by omega)) (fun k hk => rfl) (fun z => ?_)) rfl rfl rfl rfl rfl rfl rfl rfl) (fun PY hp' => Yin PY (fun _ => ⟨hmi, br_f (by rw [ehw]; exact c1) ⟨hmi, br_f (by rw [ehw]; exact c2) (y_be161_1 hm (by decide) e_fr hp')⟩⟩) (fun z => absurd c3 z))))
        rcases z with z | z
        · exact absurd z c1
        · exact absurd z c2
      · refine br_f c3 (x_ep86_0 hm (H 0 _ (nI t, 0, nI h, nI m, nI (o + 1), 0, -1, nI (s + 1), nI c, nw, gn, bg, wd, tk, tv, dg, sk, sv, vk, vv, hw, fr, og, lf, st, la, fm, fc, gr, wi, mn, qx, qy, ss, cl, cp, nx, ny) (zs_ok (hpop _ (fun k hk => rfl)) e_br rfl rfl rfl rfl rfl rfl rfl) (fun PY hp' => Yin PY (fun z => absurd z c3) (fun _ => ⟨hmi, br_f (by rw [ehw]; exact c1) ⟨hmi, br_f (by rw [ehw]; exact c2) (y_be161_0 hm e_og rfl hp')⟩⟩))))
end
