section
variable {tc ob ps su ep sd bc mA mB oX oY gY wD pC sC yt yo yh yi ya ye yp ys yc nw gn bg wd : Int32} {tk tv cb sk sv vk vv bp br bh bn bs bl px py pm cr sn sx sy sm sp dg hw fr og lf st la fm fc gr wi mn qx qy ss cl cp nx ny : Nat → Int32}
theorem zw_bit {op j : Nat} (hop : op < 45) (hj : j < ztk op) : (((zyp (nI op) >>> (nI j &&& 31)) &&& 1) = 1 ↔ zwt op j = 1) ∧ (zwt op j = 0 ∨ zwt op j = 1) := by
  have := ztk_le op
  exact (by decide +kernel : ∀ op, op < 45 → ∀ j, j < 6 → j < ztk op → ((((zyp (nI op) >>> (nI j &&& 31)) &&& 1) = 1 ↔ zwt op j = 1) ∧ (zwt op j = 0 ∨ zwt op j = 1))) op hop j (by omega) hj
theorem y_mixed_l {post : Int32 → Prop} {op h : Nat} (hop : op < 45) (hh : h ≤ 24) (ht : ztk op ≤ h) (hk : ∀ k, k < h → sk k = 0 ∨ sk k = 1) :
    ∀ d j, j + d = ztk op → post (if zmx op h sk d j = true then 1 else 0) → wY_mixed_16 post (nI op) yt yo (nI h) yi ya ye yp ys yc nw gn bg wd tk tv dg sk sv vk vv hw fr og lf st la fm fc gr wi mn qx qy ss cl cp nx ny (d + 1) (nI j) := by
  intro d
  have h6 := ztk_le op
  induction d with
  | zero =>
    intro j hj k
    unfold wY_mixed_16
    refine y_takes hop (ql_t (ztk op) j (by omega) ?_)
    rw [if_neg (by unfold zmx; decide)] at k
    exact k
  | succ d ih =>
    intro j hj k
    unfold wY_mixed_16
    refine y_takes hop (ql_f (ztk op) j (by omega) (y_isProc rfl rfl hh (by omega) (y_procs _ ?_)))
    obtain ⟨w1, w2⟩ := zw_bit (j := j) hop (by omega)
    have hkk := hk (h - 1 - j) (by omega)
    have go : ∀ z : Int32, z = zwt op j → wY_mixed_46 post (wY_mixed_16 post (nI op) yt yo (nI h) yi ya ye yp ys yc nw gn bg wd tk tv dg sk sv vk vv hw fr og lf st la fm fc gr wi mn qx qy ss cl cp nx ny (d + 1)) (nI op) (nI j) z (if sk (h - 1 - j) = 1 then 1 else 0) yt yo (nI h) yi ya ye yp ys yc nw gn bg wd tk tv dg sk sv vk vv hw fr og lf st la fm fc gr wi mn qx qy ss cl cp nx ny := by
      intro z hz
      subst hz
      have e1 : (if sk (h - 1 - j) = 1 then (1 : Int32) else 0) = sk (h - 1 - j) := by
        rcases hkk with e | e <;> rw [e] <;> rfl
      rw [e1]
      unfold zmx at k
      refine br_c (fun e => ?_) (fun e => ?_)
      · rw [if_pos e] at k
        exact nm_r (nI_1 j) (ih (j + 1) (by omega) k)
      · rw [if_neg e, if_pos rfl] at k
        exact k
    refine br_c (fun e => go 1 (w1.mp e).symm) (fun e => go 0 ?_)
    rcases w2 with e2 | e2
    · exact e2.symm
    · exact absurd (w1.mpr e2) e
theorem y_mixed {post : Int32 → Prop} {op h : Nat} (hop : op < 45) (hh : h ≤ 24) (ht : ztk op ≤ h) (hk : ∀ k, k < h → sk k = 0 ∨ sk k = 1) (hs : yh = nI h)
    (k : post (if zan op = false ∧ zmx op h sk (ztk op) 0 = true then 1 else 0)) : wpY_mixed post (yt, yo, yh, yi, ya, ye, yp, ys, yc, nw, gn, bg, wd, tk, tv, dg, sk, sv, vk, vv, hw, fr, og, lf, st, la, fm, fc, gr, wi, mn, qx, qy, ss, cl, cp, nx, ny) (nI op) := by
  subst hs
  refine pk_lt op 7 (fun h1 => ?_) (fun h1 => pk_lt 10 op (fun h2 => ?_) (fun h2 => ?_))
  · have hz : zan op = false := decide_eq_false (by omega)
    refine ⟨ztk op + 1, y_mixed_l hop hh ht hk (ztk op) 0 (by omega) ?_⟩
    by_cases hm : zmx op h sk (ztk op) 0 = true
    · rw [if_pos ⟨hz, hm⟩] at k; rw [if_pos hm]; exact k
    · rw [if_neg (fun z => hm z.2)] at k; rw [if_neg hm]; exact k
  · have hz : zan op = false := decide_eq_false (by omega)
    refine ⟨ztk op + 1, y_mixed_l hop hh ht hk (ztk op) 0 (by omega) ?_⟩
    by_cases hm : zmx op h sk (ztk op) 0 = true
    · rw [if_pos ⟨hz, hm⟩] at k; rw [if_pos hm]; exact k
    · rw [if_neg (fun z => hm z.2)] at k; rw [if_neg hm]; exact k
  · have hz : zan op = true := decide_eq_true (by omega)
    rw [if_neg (fun z => by rw [hz] at z; exact absurd z.1 (by decide))] at k
    exact k
theorem y_check49 {post : Int32 → SY → Prop} {op h : Nat} (hop : op < 45) (hh : h ≤ 24) (ht : ztk op ≤ h) (hs : yh = nI h)
    (k2 : 24 < h - ztk op + zpt op → post 2 (yt, yo, yh, yi, ya, ye, yp, ys, yc, nw, gn, bg, wd, tk, tv, dg, sk, sv, vk, vv, hw, fr, og, lf, st, la, fm, fc, gr, wi, mn, qx, qy, ss, cl, cp, nx, ny)) (k77 : ¬ 24 < h - ztk op + zpt op → op = 3 ∨ op = 4 → wY_check_77 post (nI op) (nI (ztk op)) yt yo yh yi ya ye yp ys yc nw gn bg wd tk tv dg sk sv vk vv hw fr og lf st la fm fc gr wi mn qx qy ss cl cp nx ny) (k87 : ¬ 24 < h - ztk op + zpt op → op ≠ 3 → op ≠ 4 → wY_check_87 post (nI op) (nI (ztk op)) yt yo yh yi ya ye yp ys yc nw gn bg wd tk tv dg sk sv vk vv hw fr og lf st la fm fc gr wi mn qx qy ss cl cp nx ny) :
    wY_check_49 post (nI op) (nI (ztk op)) yt yo yh yi ya ye yp ys yc nw gn bg wd tk tv dg sk sv vk vv hw fr og lf st la fm fc gr wi mn qx qy ss cl cp nx ny := by
  have hz := zpt_le op
  subst hs
  unfold wY_check_49
  refine y_puts hop ?_
  rw [pk_sub ht, nI_add]
  refine pk_le (h - ztk op + zpt op) 24 (fun h1 => pk_eq op 3 (fun e => k77 (by omega) (Or.inl e)) (fun e3 => pk_eq op 4 (fun e => k77 (by omega) (Or.inr e)) (fun e4 => k87 (by omega) e3 e4))) (fun h1 => k2 (by omega))
/-- check, up to the tests of its own that each operator has -/
theorem y_check {post : Int32 → SY → Prop} {op h pc : Nat} (hop : op < 45) (hh : h ≤ 24) (hp : pc ≤ 48) (hk : ∀ k, k < h → sk k = 0 ∨ sk k = 1) (hs : yh = nI h) (hm : mn 0 = nI pc)
    (ke : ZE1 op h sk pc ≠ 0 → post (nI (ZE1 op h sk pc)) (yt, yo, yh, yi, ya, ye, yp, ys, yc, nw, gn, bg, wd, tk, tv, dg, sk, sv, vk, vv, hw, fr, og, lf, st, la, fm, fc, gr, wi, mn, qx, qy, ss, cl, cp, nx, ny)) (k77 : ZE1 op h sk pc = 0 → op = 3 ∨ op = 4 → wY_check_77 post (nI op) (nI (ztk op)) yt yo yh yi ya ye yp ys yc nw gn bg wd tk tv dg sk sv vk vv hw fr og lf st la fm fc gr wi mn qx qy ss cl cp nx ny) (k87 : ZE1 op h sk pc = 0 → op ≠ 3 → op ≠ 4 → wY_check_87 post (nI op) (nI (ztk op)) yt yo yh yi ya ye yp ys yc nw gn bg wd tk tv dg sk sv vk vv hw fr og lf st la fm fc gr wi mn qx qy ss cl cp nx ny) :
    wpY_check post (yt, yo, yh, yi, ya, ye, yp, ys, yc, nw, gn, bg, wd, tk, tv, dg, sk, sv, vk, vv, hw, fr, og, lf, st, la, fm, fc, gr, wi, mn, qx, qy, ss, cl, cp, nx, ny) (nI op) := by
  have h6 := ztk_le op
  unfold ZE1 at ke k77 k87
  unfold wpY_check
  rw [hs]
  refine y_takes hop ?_
  refine pk_le (ztk op) h (fun h1 => ?_) (fun h1 => ?_)
  · rw [if_neg (by omega)] at ke k77 k87
    refine y_mixed hop hh h1 hk rfl ?_
    by_cases hz : zan op = false ∧ zmx op h sk (ztk op) 0 = true
    · rw [if_pos hz] at ke
      rw [if_pos hz]
      subst hs
      exact br_f (by decide) (ke (by decide))
    · rw [if_neg hz] at ke k77 k87
      rw [if_neg hz]
      subst hs
      have fin : ¬ (30 ≤ op ∧ op ≤ 35 ∧ pc = 0) → wY_check_49 post (nI op) (nI (ztk op)) yt yo (nI h) yi ya ye yp ys yc nw gn bg wd tk tv dg sk sv vk vv hw fr og lf st la fm fc gr wi mn qx qy ss cl cp nx ny := by
        intro h3
        rw [if_neg h3] at ke k77 k87
        refine y_check49 hop hh h1 rfl (fun h2 => ?_) (fun h2 => ?_) (fun h2 => ?_)
        · rw [if_pos h2] at ke; exact ke (by decide)
        · rw [if_neg h2] at k77; exact k77 rfl
        · rw [if_neg h2] at k87; exact k87 rfl
      refine br_t rfl (pk_lt op 30 (fun h2 => fin (by omega)) (fun h2 => pk_lt 35 op (fun h3 => fin (by omega)) (fun h3 => ?_)))
      rw [hm]
      refine pk_eq pc 0 (fun h4 => ?_) (fun h4 => fin (by omega))
      rw [if_pos (by omega)] at ke
      exact ke (by decide)
  · rw [if_pos h1] at ke
    subst hs
    exact ke (by decide)
/-- behind the tests of the first row -/
theorem ze_0 {op h pc : Nat} {sk : Nat → Int32} (e : ZE1 op h sk pc = 0) : ztk op ≤ h ∧ (zan op = false → ∀ j, j < ztk op → sk (h - 1 - j) = zwt op j) ∧ (30 ≤ op → op ≤ 35 → 0 < pc) ∧ h - ztk op + zpt op ≤ 24 := by
  unfold ZE1 at e
  by_cases h1 : h < ztk op
  · rw [if_pos h1] at e; omega
  · rw [if_neg h1] at e
    by_cases h2 : zan op = false ∧ zmx op h sk (ztk op) 0 = true
    · rw [if_pos h2] at e; omega
    · rw [if_neg h2] at e
      by_cases h3 : 30 ≤ op ∧ op ≤ 35 ∧ pc = 0
      · rw [if_pos h3] at e; omega
      · rw [if_neg h3] at e
        by_cases h4 : 24 < h - ztk op + zpt op
        · rw [if_pos h4] at e; omega
        · refine ⟨by omega, fun hz j hj => ?_, fun a b => by omega, by omega⟩
          exact zmx_f (ztk op) 0 (by
            cases hx : zmx op h sk (ztk op) 0 with
            | false => rfl
            | true => exact absurd ⟨hz, hx⟩ h2) j (by omega) (by omega)
/-- operators that plan nothing -/
theorem y_plan0 {post : SY → Prop} {op : Int32} (h23 : op ≠ 23) (h44 : op ≠ 44) (hr : op < 29 ∨ ¬ op ≤ 33) (k : post (yt, yo, yh, yi, ya, ye, yp, ys, yc, 0, 0, 0, 0, tk, tv, dg, sk, sv, vk, vv, hw, fr, og, lf, st, la, fm, fc, gr, wi, mn, qx, qy, ss, cl, cp, nx, ny)) : wpY_planAll post (yt, yo, yh, yi, ya, ye, yp, ys, yc, nw, gn, bg, wd, tk, tv, dg, sk, sv, vk, vv, hw, fr, og, lf, st, la, fm, fc, gr, wi, mn, qx, qy, ss, cl, cp, nx, ny) op := by
  refine br_f h23 (br_f h44 ?_)
  rcases hr with h | h
  · exact br_t h k
  · exact br_c (fun _ => k) (fun _ => br_f h k)
/-- what is left of check behind 155 (too much kept), for an operator without tests of its own there -/
theorem y_ck179 {post : Int32 → SY → Prop} {op : Int32} {h n : Nat} (hs : yh = nI h) (hh : h ≤ 24) (hn : n ≤ h) (hwd : wd = 0) (h24 : op ≠ 24) (h26 : op ≠ 26) (h27 : op ≠ 27) (h11 : op ≠ 11) (h18 : op ≠ 18) (h20 : op ≠ 20)
    (k : wY_check_335 post op yt yo yh yi ya ye yp ys yc nw gn bg wd tk tv dg sk sv vk vv hw fr og lf st la fm fc gr wi mn qx qy ss cl cp nx ny) : wY_check_179 post op (nI n) yt yo yh yi ya ye yp ys yc nw gn bg wd tk tv dg sk sv vk vv hw fr og lf st la fm fc gr wi mn qx qy ss cl cp nx ny := by
  have go : ∀ x, wY_check_192 post op x yt yo yh yi ya ye yp ys yc nw gn bg wd tk tv dg sk sv vk vv hw fr og lf st la fm fc gr wi mn qx qy ss cl cp nx ny := fun x => br_f h24 (br_f h26 (br_f h27 (br_f h11 (br_f h18 (br_f h24 (br_t hwd (br_f h20 k)))))))
  exact pk_le n 0 (fun _ => go 0) (fun h1 => y_top (j := 0) hs rfl hh (by omega) (go _))
theorem y_ck335n {post : Int32 → SY → Prop} {op : Int32} (h14 : op ≠ 14) (h16 : op ≠ 16) (h19 : op ≠ 19) (h15 : op ≠ 15) (h17 : op ≠ 17) (h18 : op ≠ 18) (k : post 0 (yt, yo, yh, yi, ya, ye, yp, ys, yc, nw, gn, bg, wd, tk, tv, dg, sk, sv, vk, vv, hw, fr, og, lf, st, la, fm, fc, gr, wi, mn, qx, qy, ss, cl, cp, nx, ny)) : wY_check_335 post op yt yo yh yi ya ye yp ys yc nw gn bg wd tk tv dg sk sv vk vv hw fr og lf st la fm fc gr wi mn qx qy ss cl cp nx ny := by
  refine br_c (fun _ => br_f h14 (br_f h16 (br_f h19 (br_f h15 (br_f h17 (br_f h18 (br_t rfl k))))))) (fun _ => k)
/-- check of an operator with no test of its own -/
theorem y_ck87 {post : Int32 → SY → Prop} {op : Int32} {h n pc : Nat} (hs : yh = nI h) (hh : h ≤ 24) (hn : n ≤ h) (hm : mn 0 = nI pc) (hp : pc ≤ 48) (h23 : op ≠ 23) (h44 : op ≠ 44) (hr : op < 29 ∨ ¬ op ≤ 33) (h33 : op ≠ 33) (h21 : op ≠ 21)
    (h24 : op ≠ 24) (h26 : op ≠ 26) (h27 : op ≠ 27) (h11 : op ≠ 11) (h18 : op ≠ 18) (h20 : op ≠ 20)
    (k : wY_check_335 post op yt yo yh yi ya ye yp ys yc 0 0 0 0 tk tv dg sk sv vk vv hw fr og lf st la fm fc gr wi mn qx qy ss cl cp nx ny) : wY_check_87 post op (nI n) yt yo yh yi ya ye yp ys yc nw gn bg wd tk tv dg sk sv vk vv hw fr og lf st la fm fc gr wi mn qx qy ss cl cp nx ny := by
  refine y_plan0 h23 h44 hr (br_f h33 (br_f h23 (br_f ?_ (br_f h21 (y_ck179 hs hh hn rfl h24 h26 h27 h11 h18 h20 k)))))
  rw [hm]
  show ¬ nI 48 < nI pc - nI 0 + nI 0
  rw [pk_sub (by omega), nI_add]
  exact nI_nlt (by omega) (by omega)
end
