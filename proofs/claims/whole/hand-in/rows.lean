section
theorem pk_us {f : Nat → Int32} {k : Nat} {x : Int32} : upd f k x k = x := if_pos rfl
theorem pk_un {f : Nat → Int32} {k j : Nat} {x : Int32} (h : j ≠ k) : upd f k x j = f j := if_neg h
theorem pk_sub {a b : Nat} (h : b ≤ a) : nI a - nI b = nI (a - b) := by
  obtain ⟨c, rfl⟩ : ∃ c, a = c + b := ⟨a - b, by omega⟩
  rw [← nI_add, Int32.add_sub_cancel, Nat.add_sub_cancel]
theorem pk_m1 (n : Nat) : nI (n + 1) + (-1) = nI n := by
  rw [← nI_1, Int32.add_assoc, show (1 : Int32) + (-1) = 0 from rfl, Int32.add_zero]
theorem pk_mul (a b : Nat) : nI a * nI b = nI (a * b) := (Int32.ofNat_mul a b).symm
theorem pk_div {a d : Nat} (ha : a < 2 ^ 31) (h0 : 0 < d) (hd : d < 2 ^ 31) : nI a / nI d = nI (a / d) := by
  apply Int32.toInt_inj.mp
  rw [lg_idiv_nonneg (by rw [nI_toInt ha]; omega) (by rw [nI_toInt hd]; omega), nI_toInt ha, nI_toInt hd, nI_toInt (Nat.lt_of_le_of_lt (Nat.div_le_self a d) ha)]
  first | rfl | exact (Int.natCast_ediv _ _).symm
theorem pk_rem {a d : Nat} (ha : a < 2 ^ 31) (h0 : 0 < d) (hd : d < 2 ^ 31) : nI a - nI a / nI d * nI d = nI (a % d) := by
  rw [pk_div ha h0 hd, pk_mul, pk_sub (Nat.div_mul_le_self a d)]
  exact congrArg nI (by have := Nat.div_add_mod' a d; omega)
theorem pk_sub_toInt {a b : Nat} (ha : a < 2 ^ 30) (hb : b < 2 ^ 30) : (nI a - nI b).toInt = (a : Int) - b := by
  rw [Int32.toInt_sub, nI_toInt (by omega), nI_toInt (by omega)]
  exact Int.bmod_eq_of_le (by omega) (by omega)
theorem pk_sneg {a b : Nat} (hb : b < 2 ^ 30) (h : a < b) : nI a - nI b < 0 := by
  rw [Int32.lt_iff_toInt_lt, pk_sub_toInt (by omega) hb, show (0 : Int32).toInt = 0 from by decide]
  omega
theorem pk_ix (x : Int32) {n : Nat} (hn : n < 2 ^ 31) : x < 0 ∨ nI n ≤ x ∨ ∃ j : Nat, j < n ∧ x = nI j := by
  by_cases h : x < 0
  · exact Or.inl h
  · obtain ⟨j, hj, rfl⟩ := nI_of h
    by_cases h2 : j < n
    · exact Or.inr (Or.inr ⟨j, h2, rfl⟩)
    · exact Or.inr (Or.inl (nI_le (by omega) hj))
theorem pk_le {x y : Int32} {A B : Prop} (a b : Nat) (f : a ≤ b → A) (g : b < a → B) (hx : x = nI a := by rfl) (hy : y = nI b := by rfl) (ha : a < 2 ^ 31 := by omega) (hb : b < 2 ^ 31 := by omega) : (x ≤ y → A) ∧ (¬ x ≤ y → B) := by
  subst hx hy
  rw [nI_leI ha hb]
  exact ⟨f, fun z => g (by omega)⟩
theorem pk_lt {x y : Int32} {A B : Prop} (a b : Nat) (f : a < b → A) (g : b ≤ a → B) (hx : x = nI a := by rfl) (hy : y = nI b := by rfl) (ha : a < 2 ^ 31 := by omega) (hb : b < 2 ^ 31 := by omega) : (x < y → A) ∧ (¬ x < y → B) := by
  subst hx hy
  rw [nI_ltI ha hb]
  exact ⟨f, fun z => g (by omega)⟩
theorem pk_eq {x y : Int32} {A B : Prop} (a b : Nat) (f : a = b → A) (g : a ≠ b → B) (hx : x = nI a := by rfl) (hy : y = nI b := by rfl) (ha : a < 2 ^ 31 := by omega) (hb : b < 2 ^ 31 := by omega) : (x = y → A) ∧ (¬ x = y → B) := by
  subst hx hy
  rw [nI_eq ha hb]
  exact ⟨f, g⟩
theorem pk_in {x : Int32} (n N : Nat) (h : n < N) (hx : x = nI n := by rfl) (hN : N < 2 ^ 31 := by omega) : vp_in x N := by
  subst hx
  exact vp_in_nI h hN
theorem pk_cl {x : Int32} (n : Nat) (hx : x = nI n := by rfl) (h : n < 2 ^ 31 := by omega) : x.toNatClampNeg = n := by
  subst hx
  exact nI_clamp h
theorem pk_tn {n : Nat} (h : n < 2 ^ 32) : (nI n).toBitVec.toNat = n := Nat.mod_eq_of_lt h
def bt (x : Int32) (i : Nat) : Bool := x.toBitVec.getLsbD i
theorem b_ext {x y : Int32} (h : ∀ i, i < 32 → bt x i = bt y i) : x = y := Int32.toBitVec_inj.mp (BitVec.eq_of_getLsbD_eq (fun i hi => h i hi))
theorem b_or (x y : Int32) (i : Nat) : bt (x ||| y) i = (bt x i || bt y i) := by unfold bt; rw [Int32.toBitVec_or, BitVec.getLsbD_or]
theorem b_and (x y : Int32) (i : Nat) : bt (x &&& y) i = (bt x i && bt y i) := by unfold bt; rw [Int32.toBitVec_and, BitVec.getLsbD_and]
theorem b_big {x : Int32} {i : Nat} (h : 32 ≤ i) : bt x i = false := BitVec.getLsbD_of_ge _ _ h
theorem b_0 (i : Nat) : bt 0 i = false := BitVec.getLsbD_zero
theorem s_l : ∀ n, n < 32 → ((nI n &&& 31).toBitVec.smod 32).toNat = n := by decide +kernel
theorem b_shl (n : Nat) (hn : n < 32) (x : Int32) {i : Nat} (hi : i < 32) : bt (x <<< (nI n &&& 31)) i = (decide (n ≤ i) && bt x (i - n)) := by
  unfold bt
  rw [Int32.toBitVec_shiftLeft]
  show (x.toBitVec <<< ((nI n &&& 31).toBitVec.smod 32).toNat).getLsbD i = _
  rw [s_l n hn, BitVec.getLsbD_shiftLeft]
  rcases Nat.lt_or_ge i n with h | h
  · simp [h, Nat.not_le.mpr h]
  · simp [hi, h, Nat.not_lt.mpr h]
theorem b_sshr (n : Nat) (hn : n < 32) (x : Int32) {i : Nat} (hi : i < 32) : bt (x >>> (nI n &&& 31)) i = if n + i < 32 then bt x (n + i) else bt x 31 := by
  unfold bt
  rw [Int32.toBitVec_shiftRight]
  show (x.toBitVec.sshiftRight ((nI n &&& 31).toBitVec.smod 32).toNat).getLsbD i = _
  rw [s_l n hn, BitVec.getLsbD_sshiftRight, BitVec.msb_eq_getLsbD_last]
  simp [hi]
/-! ===== own helpers: known branches by naturals ===== -/
theorem ql_t {x y : Int32} {A B : Prop} (a b : Nat) (h : a ≤ b) (k : A) (hx : x = nI a := by rfl) (hy : y = nI b := by rfl) (hb : b < 2 ^ 31 := by omega) : (x ≤ y → A) ∧ (¬ x ≤ y → B) := by
  subst hx hy
  exact br_t (nI_le h hb) k
theorem ql_f {x y : Int32} {A B : Prop} (a b : Nat) (h : b < a) (k : B) (hx : x = nI a := by rfl) (hy : y = nI b := by rfl) (hb : a < 2 ^ 31 := by omega) : (x ≤ y → A) ∧ (¬ x ≤ y → B) := by
  subst hx hy
  exact br_f (nI_ge h hb) k
theorem qs_t {x y : Int32} {A B : Prop} (a b : Nat) (h : a < b) (k : A) (hx : x = nI a := by rfl) (hy : y = nI b := by rfl) (hb : b < 2 ^ 31 := by omega) : (x < y → A) ∧ (¬ x < y → B) := by
  subst hx hy
  exact br_t (nI_lt h hb) k
theorem qs_f {x y : Int32} {A B : Prop} (a b : Nat) (h : b ≤ a) (k : B) (hx : x = nI a := by rfl) (hy : y = nI b := by rfl) (hb : a < 2 ^ 31 := by omega) : (x < y → A) ∧ (¬ x < y → B) := by
  subst hx hy
  exact br_f (nI_nlt h hb) k
theorem qe_t {x y : Int32} {A B : Prop} (h : x = y) (k : A) : (x = y → A) ∧ (¬ x = y → B) := br_t h k
theorem qe_f {x y : Int32} {A B : Prop} (a b : Nat) (h : a ≠ b) (k : B) (hx : x = nI a := by rfl) (hy : y = nI b := by rfl) (ha : a < 2 ^ 31 := by omega) (hb : b < 2 ^ 31 := by omega) : (x = y → A) ∧ (¬ x = y → B) := by
  subst hx hy
  exact br_f (fun z => h ((nI_eq ha hb).mp z)) k
/-- a stretch of an array overwritten -/
def zf (a : Nat → Int32) (lo hi : Nat) (g : Nat → Int32) : Nat → Int32 := fun i => if lo ≤ i ∧ i < hi then g i else a i
theorem zf_z {a : Nat → Int32} {e : Nat} {g : Nat → Int32} : zf a e e g = a := by
  funext i
  exact if_neg (by omega)
theorem zf_s {a : Nat → Int32} {j e : Nat} {g : Nat → Int32} (h : j < e) : zf (upd a j (g j)) (j + 1) e g = zf a j e g := by
  funext i
  unfold zf upd
  by_cases h1 : i = j
  · subst h1
    rw [if_neg (by omega), if_pos rfl, if_pos (by omega)]
  · rw [if_neg h1]
    by_cases h2 : j + 1 ≤ i ∧ i < e
    · rw [if_pos h2, if_pos (by omega)]
    · rw [if_neg h2, if_neg (by omega)]
theorem zf_e {a : Nat → Int32} {j e : Nat} {g : Nat → Int32} (h : j ≤ e) : upd (zf a j e g) e (g e) = zf a j (e + 1) g := by
  funext i
  unfold zf upd
  by_cases h1 : i = e
  · subst h1
    rw [if_pos rfl, if_pos (by omega)]
  · rw [if_neg h1]
    dsimp only
    by_cases h2 : j ≤ i ∧ i < e
    · rw [if_pos h2, if_pos (by omega)]
    · rw [if_neg h2, if_neg (by omega)]
theorem zf_in {a : Nat → Int32} {lo hi i : Nat} {g : Nat → Int32} (h1 : lo ≤ i) (h2 : i < hi) : zf a lo hi g i = g i := if_pos ⟨h1, h2⟩
theorem zf_lo {a : Nat → Int32} {lo hi i : Nat} {g : Nat → Int32} (h1 : i < lo) : zf a lo hi g i = a i := if_neg (by omega)
theorem zf_hi {a : Nat → Int32} {lo hi i : Nat} {g : Nat → Int32} (h1 : hi ≤ i) : zf a lo hi g i = a i := if_neg (by omega)
theorem zf_self {a : Nat → Int32} {lo hi : Nat} : zf a lo hi a = a := by
  funext i
  unfold zf
  split <;> rfl
theorem zf_congr {a : Nat → Int32} {lo hi : Nat} {g g' : Nat → Int32} (h : ∀ i, lo ≤ i → i < hi → g i = g' i) : zf a lo hi g = zf a lo hi g' := by
  funext i
  unfold zf
  by_cases h2 : lo ≤ i ∧ i < hi
  · rw [if_pos h2, if_pos h2, h i h2.1 h2.2]
  · rw [if_neg h2, if_neg h2]
theorem zu_self {a : Nat → Int32} {k : Nat} {x : Int32} (h : a k = x) : upd a k x = a := by
  funext i
  unfold upd
  by_cases h1 : i = k
  · subst h1
    rw [if_pos rfl, h]
  · rw [if_neg h1]
theorem zb_0 : vp_nar .boolean 0 = 0 := rfl
theorem zb_1 : vp_nar .boolean 1 = 1 := rfl
theorem zb_b {x : Int32} (h : x = 0 ∨ x = 1) : vp_nar .boolean x = x := by
  rcases h with h | h <;> subst h <;> rfl
theorem zc_i {n : Nat} (h : n < 1000) : (nI n).toNatClampNeg = n := nI_clamp (by omega)
theorem zn_s {a b : Nat} (h : b ≤ a) : nI a - nI b = nI (a - b) := pk_sub h
theorem zs_1 {h k : Nat} (hk : k < h) : nI h - 1 - nI k = nI (h - 1 - k) := by
  show nI h - nI 1 - nI k = _
  rw [pk_sub (by omega), pk_sub (by omega)]
theorem zt_lt {x y : Int32} : x < y ↔ x.toInt < y.toInt := Int32.lt_iff_toInt_lt
theorem zt_le {x y : Int32} : x ≤ y ↔ x.toInt ≤ y.toInt := Int32.le_iff_toInt_le
end
section
/-! ===== braces: levels ===== -/
def zl (tk : Nat → Int32) : Nat → Int
  | 0 => 0
  | n + 1 => zl tk n + (if tk n = 2 then 1 else if tk n = 3 then -1 else 0)
theorem zl_2 {tk : Nat → Int32} {n : Nat} (h : tk n = 2) : zl tk (n + 1) = zl tk n + 1 := by
  show zl tk n + _ = _
  rw [if_pos h]
theorem zl_3 {tk : Nat → Int32} {n : Nat} (h : tk n = 3) : zl tk (n + 1) = zl tk n - 1 := by
  show zl tk n + _ = _
  rw [if_neg (by rw [h]; decide), if_pos h]
  omega
theorem zl_o {tk : Nat → Int32} {n : Nat} (h : tk n ≠ 2) (h3 : tk n ≠ 3) : zl tk (n + 1) = zl tk n := by
  show zl tk n + _ = _
  rw [if_neg h, if_neg h3]
  omega
theorem zl_up {tk : Nat → Int32} {c : Nat} {x : Int32} : ∀ n, n ≤ c → zl (upd tk c x) n = zl tk n := by
  intro n
  induction n with
  | zero => intro _; rfl
  | succ n ih =>
    intro h
    show zl (upd tk c x) n + _ = zl tk n + _
    rw [ih (by omega), pk_un (by omega)]
/-- the '{' at p is closed by the '}' at c -/
def Zcl (tc : Nat) (tk cb : Nat → Int32) (p c : Nat) : Prop :=
  cb p = nI c ∧ p < c ∧ c < tc ∧ tk c = 3 ∧ zl tk (c + 1) = zl tk p ∧ ∀ q, p < q → q ≤ c → zl tk p < zl tk q
/-- the '{' at p isn't closed yet -/
def Zop (tc : Nat) (tk cb : Nat → Int32) (p : Nat) : Prop :=
  cb p = -1 ∧ ∀ q, p < q → q ≤ tc → zl tk p < zl tk q
/-- one token as the document lets it in -/
def Ztk (k v : Int32) : Prop :=
  k = 0 ∨ (k = 1 ∧ ∃ n : Nat, n < 45 ∧ v = nI n) ∨ k = 2 ∨ k = 3 ∨ (k = 4 ∧ ∃ n : Nat, n < 8 ∧ v = nI n) ∨ (k = 5 ∧ ∃ n : Nat, n < 8 ∧ v = nI n)
def ZTK (tc ob : Nat) (tk tv cb : Nat → Int32) : Prop :=
  tc ≤ 100 ∧ (∀ k, k < tc → Ztk (tk k) (tv k)) ∧ zl tk tc = (ob : Int) ∧ (∀ q, q ≤ tc → 0 ≤ zl tk q) ∧
  (∀ p, p < tc → tk p = 2 → Zop tc tk cb p ∨ ∃ c, Zcl tc tk cb p c)
theorem tk_0 (tk tv cb : Nat → Int32) : ZTK 0 0 tk tv cb := by
  refine ⟨by omega, fun k h => by omega, rfl, fun q h => ?_, fun p h => by omega⟩
  have : q = 0 := by omega
  subst this
  exact Int.le_refl _
theorem tk_ob {tc ob : Nat} {tk tv cb : Nat → Int32} (h : ZTK tc ob tk tv cb) : ob ≤ 100 := by
  have : ∀ n, zl tk n ≤ n := by
    intro n
    induction n with
    | zero => exact Int.le_refl _
    | succ n ih =>
      have : zl tk (n + 1) ≤ zl tk n + 1 := by
        show zl tk n + _ ≤ _
        split
        · omega
        · split <;> omega
      omega
  have h1 := this tc
  have h2 := h.2.2.1
  have h3 := h.1
  omega
/-- no unclosed '{' from a on: the level doesn't rise -/
theorem zl_no {tc : Nat} {tk cb : Nat → Int32} (H : ∀ p, p < tc → tk p = 2 → Zop tc tk cb p ∨ ∃ c, Zcl tc tk cb p c) :
    ∀ d a, a + d = tc → (∀ p, a ≤ p → p < tc → tk p = 2 → ¬ cb p < 0) → zl tk tc ≤ zl tk a := by
  intro d
  induction d using Nat.strongRecOn with
  | ind d ih =>
    intro a ha ho
    by_cases h0 : d = 0
    · subst h0
      have : a = tc := by omega
      rw [this]
      exact Int.le_refl _
    · by_cases h2 : tk a = 2
      · rcases H a (by omega) h2 with hO | ⟨c, hc⟩
        · exact absurd (by rw [hO.1]; decide) (ho a (by omega) (by omega) h2)
        · have := ih (tc - (c + 1)) (by have := hc.2.1; have := hc.2.2.1; omega) (c + 1) (by have := hc.2.2.1; omega) (fun p h1 h3 h4 => ho p (by have := hc.2.1; omega) h3 h4)
          rw [hc.2.2.2.2.1] at this
          exact this
      · have h1 := ih (d - 1) (by omega) (a + 1) (by omega) (fun p h1 h3 h4 => ho p (by omega) h3 h4)
        by_cases h3 : tk a = 3
        · have := zl_3 h3
          omega
        · have := zl_o h2 h3
          omega
theorem zc_neg {c : Nat} (h : c < 1000) : ¬ nI c < 0 := nI_pos (by omega)
/-- a token that is no brace -/
theorem tk_add {tc ob : Nat} {tk tv cb : Nat → Int32} {k v : Int32} (h : ZTK tc ob tk tv cb) (hc : tc < 100) (hk : Ztk k v) (h2 : k ≠ 2) (h3 : k ≠ 3) :
    ZTK (tc + 1) ob (upd tk tc k) (upd tv tc v) (upd cb tc (-1)) := by
  obtain ⟨a, b, c, d, e⟩ := h
  have hl : zl (upd tk tc k) (tc + 1) = zl tk tc := by
    rw [zl_o (by rw [pk_us]; exact h2) (by rw [pk_us]; exact h3), zl_up _ (Nat.le_refl _)]
  refine ⟨by omega, fun j hj => ?_, by rw [hl, c], fun q hq => ?_, fun p hp h => ?_⟩
  · by_cases hj2 : j = tc
    · subst hj2; rw [pk_us, pk_us]; exact hk
    · rw [pk_un hj2, pk_un hj2]; exact b j (by omega)
  · by_cases hq2 : q = tc + 1
    · subst hq2; rw [hl]; exact d tc (Nat.le_refl _)
    · rw [zl_up q (by omega)]; exact d q (by omega)
  · by_cases hp2 : p = tc
    · subst hp2; rw [pk_us] at h; exact absurd h h2
    · rw [pk_un hp2] at h
      rcases e p (by omega) h with hO | ⟨c', hc'⟩
      · left
        refine ⟨by rw [pk_un hp2]; exact hO.1, fun q h1 h4 => ?_⟩
        rw [zl_up p (by omega)]
        by_cases hq2 : q = tc + 1
        · subst hq2; rw [hl]; exact hO.2 tc (by omega) (Nat.le_refl _)
        · rw [zl_up q (by omega)]; exact hO.2 q h1 (by omega)
      · right
        obtain ⟨x1, x2, x3, x4, x5, x6⟩ := hc'
        refine ⟨c', by rw [pk_un hp2]; exact x1, x2, by omega, by rw [pk_un (by omega)]; exact x4, ?_, fun q h1 h4 => ?_⟩
        · rw [zl_up _ (by omega), zl_up _ (by omega)]; exact x5
        · rw [zl_up _ (by omega), zl_up _ (by omega)]; exact x6 q h1 h4
theorem tk_beg {tc ob : Nat} {tk tv cb : Nat → Int32} {v : Int32} (h : ZTK tc ob tk tv cb) (hc : tc < 100) :
    ZTK (tc + 1) (ob + 1) (upd tk tc 2) (upd tv tc v) (upd cb tc (-1)) := by
  obtain ⟨a, b, c, d, e⟩ := h
  have hl : zl (upd tk tc 2) (tc + 1) = zl tk tc + 1 := by
    rw [zl_2 pk_us, zl_up _ (Nat.le_refl _)]
  refine ⟨by omega, fun j hj => ?_, by rw [hl, c]; omega, fun q hq => ?_, fun p hp h => ?_⟩
  · by_cases hj2 : j = tc
    · subst hj2; rw [pk_us, pk_us]; exact Or.inr (Or.inr (Or.inl rfl))
    · rw [pk_un hj2, pk_un hj2]; exact b j (by omega)
  · by_cases hq2 : q = tc + 1
    · subst hq2; rw [hl]; have := d tc (Nat.le_refl _); omega
    · rw [zl_up q (by omega)]; exact d q (by omega)
  · by_cases hp2 : p = tc
    · subst hp2
      left
      refine ⟨pk_us, fun q h1 h4 => ?_⟩
      have : q = p + 1 := by omega
      subst this
      rw [hl, zl_up _ (Nat.le_refl _)]
      omega
    · rw [pk_un hp2] at h
      rcases e p (by omega) h with hO | ⟨c', hc'⟩
      · left
        refine ⟨by rw [pk_un hp2]; exact hO.1, fun q h1 h4 => ?_⟩
        rw [zl_up p (by omega)]
        by_cases hq2 : q = tc + 1
        · subst hq2; rw [hl]; have := hO.2 tc (by omega) (Nat.le_refl _); omega
        · rw [zl_up q (by omega)]; exact hO.2 q h1 (by omega)
      · right
        obtain ⟨x1, x2, x3, x4, x5, x6⟩ := hc'
        refine ⟨c', by rw [pk_un hp2]; exact x1, x2, by omega, by rw [pk_un (by omega)]; exact x4, ?_, fun q h1 h4 => ?_⟩
        · rw [zl_up _ (by omega), zl_up _ (by omega)]; exact x5
        · rw [zl_up _ (by omega), zl_up _ (by omega)]; exact x6 q h1 h4
/-- a '}': the latest unclosed '{' is closed by it -/
theorem tk_close {tc ob : Nat} {tk tv cb : Nat → Int32} {v : Int32} (h : ZTK tc (ob + 1) tk tv cb) (hc : tc < 100) :
    ∃ p, p < tc ∧ tk p = 2 ∧ cb p < 0 ∧ (∀ q, p < q → q < tc → tk q = 2 → ¬ cb q < 0) ∧
      ZTK (tc + 1) ob (upd tk tc 3) (upd tv tc v) (upd (upd cb tc (-1)) p (nI tc)) := by
  obtain ⟨a, b, c, d, e⟩ := h
  have hex : ∃ p, p < tc ∧ tk p = 2 ∧ cb p < 0 ∧ (∀ q, p < q → q < tc → tk q = 2 → ¬ cb q < 0) := by
    have : ∀ n, n ≤ tc → (∀ q, n ≤ q → q < tc → tk q = 2 → ¬ cb q < 0) → ∃ p, p < tc ∧ tk p = 2 ∧ cb p < 0 ∧ (∀ q, p < q → q < tc → tk q = 2 → ¬ cb q < 0) := by
      intro n
      induction n with
      | zero =>
        intro _ hq
        have := zl_no e tc 0 (by omega) (fun p _ => hq p (by omega))
        have h0 : zl tk 0 = 0 := rfl
        omega
      | succ n ih =>
        intro hn hq
        by_cases h1 : tk n = 2 ∧ cb n < 0
        · exact ⟨n, by omega, h1.1, h1.2, fun q h2 => hq q (by omega)⟩
        · refine ih (by omega) (fun q h2 h3 h4 => ?_)
          by_cases h5 : q = n
          · subst h5; exact fun h6 => h1 ⟨h4, h6⟩
          · exact hq q (by omega) h3 h4
    exact this tc (Nat.le_refl _) (fun q h1 h2 => by omega)
  obtain ⟨p, hp, hp2, hp3, hp4⟩ := hex
  refine ⟨p, hp, hp2, hp3, hp4, ?_⟩
  have hO : Zop tc tk cb p := by
    rcases e p hp hp2 with hO | ⟨c', hc'⟩
    · exact hO
    · exact absurd hp3 (by rw [hc'.1]; exact zc_neg (by have := hc'.2.2.1; omega))
  have hl : zl (upd tk tc 3) (tc + 1) = zl tk tc - 1 := by
    rw [zl_3 pk_us, zl_up _ (Nat.le_refl _)]
  have hle : zl tk tc = zl tk p + 1 := by
    have h1 := zl_no e (tc - (p + 1)) (p + 1) (by omega) (fun q h1 h2 h3 => hp4 q (by omega) h2 h3)
    have h2 := hO.2 tc hp (Nat.le_refl _)
    have h3 := zl_2 hp2
    omega
  refine ⟨by omega, fun j hj => ?_, by rw [hl, c]; omega, fun q hq => ?_, fun j hj h => ?_⟩
  · by_cases hj2 : j = tc
    · subst hj2; rw [pk_us, pk_us]; exact Or.inr (Or.inr (Or.inr (Or.inl rfl)))
    · rw [pk_un hj2, pk_un hj2]; exact b j (by omega)
  · by_cases hq2 : q = tc + 1
    · subst hq2; rw [hl, c]; omega
    · rw [zl_up q (by omega)]; exact d q (by omega)
  · by_cases hj2 : j = tc
    · subst hj2; rw [pk_us] at h; exact absurd h (by decide)
    · rw [pk_un hj2] at h
      by_cases hjp : j = p
      · subst hjp
        right
        refine ⟨tc, pk_us, by omega, by omega, pk_us, ?_, fun q h1 h4 => ?_⟩
        · rw [hl, zl_up _ (by omega)]; omega
        · rw [zl_up _ (by omega), zl_up _ (by omega)]; exact hO.2 q h1 (by omega)
      · rcases e j (by omega) h with hO' | ⟨c', hc'⟩
        · left
          have hjl : j < p := by
            rcases Nat.lt_or_ge j p with h1 | h1
            · exact h1
            · exact absurd (by rw [hO'.1]; decide) (hp4 j (by omega) (by omega) h)
          refine ⟨by rw [pk_un hjp, pk_un hj2]; exact hO'.1, fun q h1 h4 => ?_⟩
          rw [zl_up j (by omega)]
          by_cases hq2 : q = tc + 1
          · subst hq2; rw [hl]; have := hO'.2 p hjl (by omega); omega
          · rw [zl_up q (by omega)]; exact hO'.2 q h1 (by omega)
        · right
          obtain ⟨x1, x2, x3, x4, x5, x6⟩ := hc'
          refine ⟨c', by rw [pk_un hjp, pk_un hj2]; exact x1, x2, by omega, by rw [pk_un (by omega)]; exact x4, ?_, fun q h1 h4 => ?_⟩
          · rw [zl_up _ (by omega), zl_up _ (by omega)]; exact x5
          · rw [zl_up _ (by omega), zl_up _ (by omega)]; exact x6 q h1 h4
/-- with no brace unclosed, every '{' has its '}' -/
theorem tk_all {tc : Nat} {tk tv cb : Nat → Int32} (h : ZTK tc 0 tk tv cb) {p : Nat} (hp : p < tc) (h2 : tk p = 2) : ∃ c, Zcl tc tk cb p c := by
  rcases h.2.2.2.2 p hp h2 with hO | hc
  · have h1 := hO.2 tc hp (Nat.le_refl _)
    have h3 := h.2.2.2.1 p (by omega)
    have h4 := h.2.2.1
    omega
  · exact hc
/-! ===== where a run may stand ===== -/
def Zk0 (tc : Nat) (tk : Nat → Int32) (q : Nat) : Prop := q ≤ tc ∧ zl tk q = 0
def Zk1 (tc : Nat) (tk cb : Nat → Int32) (p q : Nat) : Prop := p < tc ∧ tk p = 2 ∧ ∃ c, Zcl tc tk cb p c ∧ p < q ∧ q ≤ c ∧ zl tk q = zl tk p + 1
/-- q is a place of the procedure that frame n - 1 holds, or of the program itself -/
def ZPO (tc : Nat) (tk cb bp : Nat → Int32) (n q : Nat) : Prop :=
  match n with
  | 0 => Zk0 tc tk q
  | n + 1 => Zk1 tc tk cb (bp n).toNatClampNeg q
theorem po_le {tc : Nat} {tk cb bp : Nat → Int32} {n q : Nat} (h : ZPO tc tk cb bp n q) : q ≤ tc := by
  cases n with
  | zero => exact h.1
  | succ n => obtain ⟨_, _, c, hc, _, h1, _⟩ := h; have := hc.2.2.1; omega
theorem po_next {tc : Nat} {tk cb bp : Nat → Int32} {n q : Nat} (h : ZPO tc tk cb bp n q) (hq : q < tc) (h2 : tk q ≠ 2) (h3 : tk q ≠ 3) : ZPO tc tk cb bp n (q + 1) := by
  have hl := zl_o h2 h3
  cases n with
  | zero => exact ⟨by omega, by rw [hl]; exact h.2⟩
  | succ n =>
    obtain ⟨a, b, c, hc, h4, h5, h6⟩ := h
    have : q ≠ c := fun z => h3 (by rw [z]; exact hc.2.2.2.1)
    exact ⟨a, b, c, hc, by omega, by omega, by rw [hl]; exact h6⟩
theorem po_skip {tc : Nat} {tk cb bp : Nat → Int32} {n q c : Nat} (h : ZPO tc tk cb bp n q) (h2 : tk q = 2) (hc : Zcl tc tk cb q c) : ZPO tc tk cb bp n (c + 1) := by
  obtain ⟨x1, x2, x3, x4, x5, x6⟩ := hc
  cases n with
  | zero => exact ⟨by omega, by rw [x5]; exact h.2⟩
  | succ n =>
    obtain ⟨a, b, c', hc', h4, h5, h6⟩ := h
    have hne : q ≠ c' := fun z => by rw [z, hc'.2.2.2.1] at h2; exact absurd h2 (by decide)
    refine ⟨a, b, c', hc', by omega, ?_, by rw [x5]; exact h6⟩
    rcases Nat.lt_or_ge c' (c + 1) with h7 | h7
    · exfalso
      have h8 := hc'.2.2.2.2.1
      by_cases h9 : c' = c
      · subst h9; omega
      · have := x6 (c' + 1) (by omega) (by omega)
        omega
    · exact h7
theorem po_end {tc ob : Nat} {tk tv cb bp : Nat → Int32} {n q : Nat} (ht : ZTK tc ob tk tv cb) (h : ZPO tc tk cb bp n q) (hq : q < tc) (h3 : tk q = 3) : 0 < n := by
  cases n with
  | zero =>
    have h1 := zl_3 h3
    have h4 := ht.2.2.2.1 (q + 1) (by omega)
    have h5 := h.2
    omega
  | succ n => omega
theorem po_in {tc : Nat} {tk tv cb bp : Nat → Int32} {n p : Nat} (ht : ZTK tc 0 tk tv cb) (hp : p < tc) (h2 : tk p = 2) : ZPO tc tk cb (upd bp n (nI p)) (n + 1) (p + 1) := by
  obtain ⟨c, hc⟩ := tk_all ht hp h2
  have ha := ht.1
  show Zk1 tc tk cb (upd bp n (nI p) n).toNatClampNeg (p + 1)
  rw [pk_us, zc_i (by omega)]
  exact ⟨hp, h2, c, hc, by omega, by have := hc.2.1; omega, zl_2 h2⟩
theorem po_bp {tc : Nat} {tk cb bp bp' : Nat → Int32} {n q : Nat} (h : ZPO tc tk cb bp n q) (e : ∀ k, k < n → bp' k = bp k) : ZPO tc tk cb bp' n q := by
  cases n with
  | zero => exact h
  | succ n =>
    show Zk1 tc tk cb (bp' n).toNatClampNeg q
    rw [e n (by omega)]
    exact h
end
section
/-! ===== the relation ===== -/
/-- the first point of k's subpath -/
def Zft (ss : Nat → Int32) : Nat → Nat
  | 0 => 0
  | k + 1 => if ss (k + 1) = 0 then Zft ss k else k + 1
def Zb2 (x : Int32) : Prop := x = 0 ∨ x = 1
def Zmk (s c : Int32) : Int32 := (if s = 0 then 0 else 1) + (if c = 0 then 0 else 2)
def Zsm (x : Int32) : Prop := -200 ≤ x.toInt ∧ x.toInt ≤ 200
/-- the two paths, as far as they go -/
def ZPT (pc : Nat) (px py pm qx qy ss cl : Nat → Int32) : Prop :=
  pc ≤ 48 ∧ (0 < pc → ss 0 ≠ 0) ∧ ∀ k, k < pc → qx k = px k ∧ qy k = py k ∧ Zb2 (ss k) ∧ Zb2 (cl k) ∧ pm k = Zmk (ss k) (cl (Zft ss k)) ∧ Zsm (px k) ∧ Zsm (py k)
/-- the two clips: a row's bits, and a dot each -/
def ZCP (cr cp : Nat → Int32) : Prop :=
  ∀ j, j < 24 → (∀ i, i < 24 → Zb2 (cp (24 * j + i)) ∧ bt (cr j) i = decide (cp (24 * j + i) ≠ 0)) ∧ ∀ i, 24 ≤ i → bt (cr j) i = false
/-- the two maps -/
def ZGR (a b ox oy : Int32) (f : Nat → Int32) (F : Int32) : Prop :=
  f 0 = a ∧ f 1 = -b ∧ f 2 = ox ∧ f 3 = b ∧ f 4 = a ∧ f 5 = oy ∧ Zsm ox ∧ Zsm oy ∧
  ∃ n : Nat, 1 ≤ n ∧ n ≤ 64 ∧ F = nI n ∧ ((a = nI n ∧ b = 0) ∨ (a = 0 ∧ b = nI n) ∨ (a = -nI n ∧ b = 0) ∨ (a = 0 ∧ b = -nI n))
/-- two graphics states -/
def ZGS (a b ox oy g w m : Int32) (px py pm cr : Nat → Int32) (f : Nat → Int32) (F G W M : Int32) (qx qy ss cl cp : Nat → Int32) : Prop :=
  ZGR a b ox oy f F ∧ G = g ∧ W = w ∧ M = m ∧ (∃ pc : Nat, m = nI pc ∧ ZPT pc px py pm qx qy ss cl) ∧ ZCP cr cp
/-- the saved ones -/
def ZSV (n : Nat) (sn sx sy sm sp fm fc gr wi mn qx qy ss cl cp : Nat → Int32) : Prop :=
  n ≤ 4 ∧ ∀ c, c < n → ZGS (sn (7 * c)) (sn (7 * c + 1)) (sn (7 * c + 2)) (sn (7 * c + 3)) (sn (7 * c + 4)) (sn (7 * c + 5)) (sn (7 * c + 6))
    (fun k => sx (48 * c + k)) (fun k => sy (48 * c + k)) (fun k => sm (48 * c + k)) (fun j => sp (24 * c + j))
    (fun k => fm (6 * (c + 1) + k)) (fc (c + 1)) (gr (c + 1)) (wi (c + 1)) (mn (c + 1))
    (fun k => qx (48 * (c + 1) + k)) (fun k => qy (48 * (c + 1) + k)) (fun k => ss (48 * (c + 1) + k)) (fun k => cl (48 * (c + 1) + k)) (fun d => cp (576 * (c + 1) + d))
/-- a value: a number, or the place of a '{' -/
def ZV (t : Nat) (tk : Nat → Int32) (k v : Int32) : Prop := k = 0 ∨ (k = 1 ∧ ∃ p : Nat, p < t ∧ v = nI p ∧ tk p = 2)
def ZST (t : Nat) (tk : Nat → Int32) (h : Nat) (sk sv : Nat → Int32) : Prop := h ≤ 24 ∧ ∀ k, k < h → ZV t tk (sk k) (sv k)
def ZVR (t : Nat) (tk vk vv : Nat → Int32) : Prop := ∀ k, k < 8 → ZV t tk (vk k) (vv k)
/-- the procedures that have begun -/
def ZFR (t : Nat) (tk cb : Nat → Int32) (n : Nat) (bp br bh bn bs bl hw fr og lf st la : Nat → Int32) : Prop :=
  n ≤ 12 ∧ ∀ k, k < n → (∃ p o : Nat, p < t ∧ tk p = 2 ∧ bp k = nI p ∧ fr k = nI (p + 1) ∧ br k = nI (o + 1) ∧ og k = nI o ∧ ZPO t tk cb bp k (o + 1)) ∧
    hw k = bh k ∧ (bh k = 2 → lf k = bn k ∧ st k = bs k ∧ la k = bl k) ∧ (bh k = 1 → lf k = bn k ∧ bs k = -1 ∧ bl k = 1)
/-- within a run -/
def ZR (t h n a c : Nat) (mA mB oX oY gY wD pC : Int32) (tk tv cb sk sv vk vv bp br bh bn bs bl px py pm cr sn sx sy sm sp hw fr og lf st la fm fc gr wi mn qx qy ss cl cp : Nat → Int32) : Prop :=
  ZTK t 0 tk tv cb ∧ ZST t tk h sk sv ∧ ZVR t tk vk vv ∧ ZFR t tk cb n bp br bh bn bs bl hw fr og lf st la ∧ ZPO t tk cb bp n a ∧
  ZGS mA mB oX oY gY wD pC px py pm cr fm (fc 0) (gr 0) (wi 0) (mn 0) qx qy ss cl cp ∧
  ZSV c sn sx sy sm sp fm fc gr wi mn qx qy ss cl cp
def ZRun (s : Nat) (u : SX) (v : SY) : Prop :=
  match u, v with
  | (tc, ob, ps, su, ep, sd, bc, mA, mB, oX, oY, gY, wD, pC, sC, tk, tv, cb, sk, sv, vk, vv, bp, br, bh, bn, bs, bl, px, py, pm, cr, sn, sx, sy, sm, sp, dg), (yt, yo, yh, yi, ya, ye, yp, ys, yc, nw, gn, bg, wd, tk', tv', dg', sk', sv', vk', vv', hw, fr, og, lf, st, la, fm, fc, gr, wi, mn, qx, qy, ss, cl, cp, nx, ny) =>
    ∃ t h n a c : Nat, (tc = nI t ∧ ob = 0 ∧ ps = nI a ∧ su = nI s ∧ ep = -1 ∧ sd = nI h ∧ bc = nI n ∧ sC = nI c) ∧
      (yt = nI t ∧ yo = 0 ∧ yh = nI h ∧ yi = nI n ∧ ya = nI a ∧ ye = 0 ∧ yp = -1 ∧ ys = nI s ∧ yc = nI c) ∧
      (tk' = tk ∧ tv' = tv ∧ dg' = dg ∧ sk' = sk ∧ sv' = sv ∧ vk' = vk ∧ vv' = vv) ∧
      ZR t h n a c mA mB oX oY gY wD pC tk tv cb sk sv vk vv bp br bh bn bs bl px py pm cr sn sx sy sm sp hw fr og lf st la fm fc gr wi mn qx qy ss cl cp
/-- between two calls, but for the place of the error -/
def ZI0 (u : SX) (v : SY) : Prop :=
  match u, v with
  | (tc, ob, ps, su, ep, sd, bc, mA, mB, oX, oY, gY, wD, pC, sC, tk, tv, cb, sk, sv, vk, vv, bp, br, bh, bn, bs, bl, px, py, pm, cr, sn, sx, sy, sm, sp, dg), (yt, yo, yh, yi, ya, ye, yp, ys, yc, nw, gn, bg, wd, tk', tv', dg', sk', sv', vk', vv', hw, fr, og, lf, st, la, fm, fc, gr, wi, mn, qx, qy, ss, cl, cp, nx, ny) =>
    ∃ t o h : Nat, (tc = nI t ∧ ob = nI o ∧ sd = nI h ∧ h ≤ 24) ∧ (yt = nI t ∧ yo = nI o ∧ yh = nI h ∧ ys = su) ∧
      (tk' = tk ∧ tv' = tv ∧ dg' = dg ∧ sk' = sk ∧ sv' = sv ∧ vk' = vk ∧ vv' = vv) ∧ ZTK t o tk tv cb ∧
      (∃ pc : Nat, pC = nI pc ∧ mn 0 = nI pc ∧ ZPT pc px py pm qx qy ss cl) ∧ ZCP cr cp
def ZI (u : SX) (v : SY) : Prop :=
  ZI0 u v ∧ (match u, v with
  | (tc, ob, ps, su, ep, sd, bc, mA, mB, oX, oY, gY, wD, pC, sC, tk, tv, cb, sk, sv, vk, vv, bp, br, bh, bn, bs, bl, px, py, pm, cr, sn, sx, sy, sm, sp, dg), (yt, yo, yh, yi, ya, ye, yp, ys, yc, nw, gn, bg, wd, tk', tv', dg', sk', sv', vk', vv', hw, fr, og, lf, st, la, fm, fc, gr, wi, mn, qx, qy, ss, cl, cp, nx, ny) => yp = ep)
/-- after a step: the run goes on, or it ends with error e -/
def ZErr (a : Nat) (e : Int32) (u : SX) (v : SY) : Prop :=
  e ≠ 0 ∧ ZI0 u v ∧ (match v with | (yt, yo, yh, yi, ya, ye, yp, ys, yc, nw, gn, bg, wd, tk, tv, dg, sk, sv, vk, vv, hw, fr, og, lf, st, la, fm, fc, gr, wi, mn, qx, qy, ss, cl, cp, nx, ny) => ye = e ∧ ya = nI a ∧ yp = -1 ∧ ∃ t : Nat, yt = nI t)
def ZStep (a s : Nat) (e : Int32) (u : SX) (v : SY) : Prop := (e = 0 ∧ ZRun s u v) ∨ ZErr a e u v
section
variable {tc ob ps su ep sd bc mA mB oX oY gY wD pC sC yt yo yh yi ya ye yp ys yc nw gn bg wd : Int32} {tk tv cb sk sv vk vv bp br bh bn bs bl px py pm cr sn sx sy sm sp dg hw fr og lf st la fm fc gr wi mn qx qy ss cl cp nx ny : Nat → Int32}
theorem zs_ok {t h n a c s a0 : Nat}
    (hR : ZR t h n a c mA mB oX oY gY wD pC tk tv cb sk sv vk vv bp br bh bn bs bl px py pm cr sn sx sy sm sp hw fr og lf st la fm fc gr wi mn qx qy ss cl cp)
    (h1 : ps = nI a) (h2 : ya = nI a) (h3 : sd = nI h) (h4 : yh = nI h) (h5 : bc = nI n) (h6 : yi = nI n) (h7 : sC = nI c) (h8 : yc = nI c) :
    ZStep a0 s 0 (nI t, 0, ps, nI s, -1, sd, bc, mA, mB, oX, oY, gY, wD, pC, sC, tk, tv, cb, sk, sv, vk, vv, bp, br, bh, bn, bs, bl, px, py, pm, cr, sn, sx, sy, sm, sp, dg) (nI t, 0, yh, yi, ya, 0, -1, nI s, yc, nw, gn, bg, wd, tk, tv, dg, sk, sv, vk, vv, hw, fr, og, lf, st, la, fm, fc, gr, wi, mn, qx, qy, ss, cl, cp, nx, ny) :=
  Or.inl ⟨rfl, ⟨t, h, n, a, c, ⟨rfl, rfl, h1, rfl, rfl, h3, h5, h7⟩, ⟨rfl, rfl, h4, h6, h2, rfl, rfl, rfl, h8⟩, ⟨rfl, rfl, rfl, rfl, rfl, rfl, rfl⟩, hR⟩⟩
theorem zs_er {t h n c s a0 : Nat} {e : Int32}
    (hR : ZR t h n a0 c mA mB oX oY gY wD pC tk tv cb sk sv vk vv bp br bh bn bs bl px py pm cr sn sx sy sm sp hw fr og lf st la fm fc gr wi mn qx qy ss cl cp)
    (he : e ≠ 0) {bp' br' bh' bn' bs' bl' : Nat → Int32} :
    ZStep a0 s e (nI t, 0, ps, nI s, ep, nI h, bc, mA, mB, oX, oY, gY, wD, pC, sC, tk, tv, cb, sk, sv, vk, vv, bp', br', bh', bn', bs', bl', px, py, pm, cr, sn, sx, sy, sm, sp, dg) (nI t, 0, nI h, yi, nI a0, e, -1, nI s, yc, nw, gn, bg, wd, tk, tv, dg, sk, sv, vk, vv, hw, fr, og, lf, st, la, fm, fc, gr, wi, mn, qx, qy, ss, cl, cp, nx, ny) := by
  obtain ⟨q1, q2, q3, q4, q5, ⟨q6, q7, q8, q9, ⟨pc, q10, q11⟩, q12⟩, q13⟩ := hR
  exact Or.inr ⟨he, ⟨t, 0, h, ⟨rfl, rfl, rfl, q2.1⟩, ⟨rfl, rfl, rfl, rfl⟩, ⟨rfl, rfl, rfl, rfl, rfl, rfl, rfl⟩, q1, ⟨pc, q10, by rw [q9, q10], q11⟩, q12⟩, ⟨rfl, rfl, rfl, t, rfl⟩⟩
end
def i_Rel (k : Nat) (u : SX) (v : SY) : Prop := ZI u v
theorem i_up {k : Nat} {u : SX} {v : SY} (h : i_Rel k u v) : i_Rel (k + 3) u v := h
end
section
/-! ===== tables ===== -/
def ztk (op : Nat) : Nat := [2, 2, 2, 2, 2, 1, 2, 2, 1, 1, 2, 1, 0, 0, 1, 2, 3, 2, 4, 1, 0, 0, 0, 2, 1, 0, 1, 1, 0, 2, 2, 2, 2, 6, 0, 0, 0, 0, 0, 0, 0, 0, 0, 2, 4].getD op 0
def zpt (op : Nat) : Nat := if op ≤ 7 ∨ op = 11 ∨ op = 12 ∨ op = 43 then 1 else if op = 9 ∨ op = 10 ∨ op = 35 then 2 else 0
def zpr (op : Nat) : Nat := if op = 16 then 2 else if 14 ≤ op ∧ op ≤ 19 then 1 else 0
def zan (op : Nat) : Bool := decide (7 ≤ op ∧ op ≤ 10)
def zwt (op k : Nat) : Int32 := if k < zpr op then 1 else 0
theorem zh {α : Type} (post : α → Prop) (c : Prop) [Decidable c] (a b : α) : ((c → post a) ∧ (¬ c → post b)) ↔ post (if c then a else b) := by
  by_cases h : c
  · rw [if_pos h]; exact ⟨fun z => z.1 h, fun z => br_t h z⟩
  · rw [if_neg h]; exact ⟨fun z => z.2 h, fun z => br_f h z⟩
theorem ztk_le (op : Nat) : ztk op ≤ 6 := by
  rcases Nat.lt_or_ge op 45 with h | h
  · exact (by decide +kernel : ∀ op, op < 45 → ztk op ≤ 6) op h
  · have : ztk op = 0 := by
      unfold ztk
      rw [List.getD_eq_getElem?_getD, List.getElem?_eq_none (by simpa using h)]
      rfl
    omega
theorem zpt_le (op : Nat) : zpt op ≤ 2 := by
  unfold zpt
  split
  · omega
  · split <;> omega
theorem x_takenBy {post : Int32 → Prop} {op : Nat} (h : op < 45) (k : post (nI (ztk op))) : wpX_takenBy post (nI op) := by
  unfold wpX_takenBy
  exact qs_f op 0 (by omega) (qs_f 44 op (by omega) (pk_eq op 0 (fun e => by subst e; exact k) (fun _ => pk_eq op 1 (fun e => by subst e; exact k) (fun _ => pk_eq op 2 (fun e => by subst e; exact k) (fun _ => pk_eq op 3 (fun e => by subst e; exact k) (fun _ => pk_eq op 4 (fun e => by subst e; exact k) (fun _ => pk_eq op 5 (fun e => by subst e; exact k) (fun _ => pk_eq op 6 (fun e => by subst e; exact k) (fun _ => pk_eq op 7 (fun e => by subst e; exact k) (fun _ => pk_eq op 8 (fun e => by subst e; exact k) (fun _ => pk_eq op 9 (fun e => by subst e; exact k) (fun _ => pk_eq op 10 (fun e => by subst e; exact k) (fun _ => pk_eq op 11 (fun e => by subst e; exact k) (fun _ => pk_eq op 12 (fun e => by subst e; exact k) (fun _ => pk_eq op 13 (fun e => by subst e; exact k) (fun _ => pk_eq op 14 (fun e => by subst e; exact k) (fun _ => pk_eq op 15 (fun e => by subst e; exact k) (fun _ => pk_eq op 16 (fun e => by subst e; exact k) (fun _ => pk_eq op 17 (fun e => by subst e; exact k) (fun _ => pk_eq op 18 (fun e => by subst e; exact k) (fun _ => pk_eq op 19 (fun e => by subst e; exact k) (fun _ => pk_eq op 20 (fun e => by subst e; exact k) (fun _ => pk_eq op 21 (fun e => by subst e; exact k) (fun _ => pk_eq op 22 (fun e => by subst e; exact k) (fun _ => pk_eq op 23 (fun e => by subst e; exact k) (fun _ => pk_eq op 24 (fun e => by subst e; exact k) (fun _ => pk_eq op 25 (fun e => by subst e; exact k) (fun _ => pk_eq op 26 (fun e => by subst e; exact k) (fun _ => pk_eq op 27 (fun e => by subst e; exact k) (fun _ => pk_eq op 28 (fun e => by subst e; exact k) (fun _ => pk_eq op 29 (fun e => by subst e; exact k) (fun _ => pk_eq op 30 (fun e => by subst e; exact k) (fun _ => pk_eq op 31 (fun e => by subst e; exact k) (fun _ => pk_eq op 32 (fun e => by subst e; exact k) (fun _ => pk_eq op 33 (fun e => by subst e; exact k) (fun _ => pk_eq op 34 (fun e => by subst e; exact k) (fun _ => pk_eq op 35 (fun e => by subst e; exact k) (fun _ => pk_eq op 36 (fun e => by subst e; exact k) (fun _ => pk_eq op 37 (fun e => by subst e; exact k) (fun _ => pk_eq op 38 (fun e => by subst e; exact k) (fun _ => pk_eq op 39 (fun e => by subst e; exact k) (fun _ => pk_eq op 40 (fun e => by subst e; exact k) (fun _ => pk_eq op 41 (fun e => by subst e; exact k) (fun _ => pk_eq op 42 (fun e => by subst e; exact k) (fun _ => pk_eq op 43 (fun e => by subst e; exact k) (fun _ => pk_eq op 44 (fun e => by subst e; exact k) (fun _ => trivial)))))))))))))))))))))))))))))))))))))))))))))))
theorem x_procs {post : Int32 → Prop} {op : Nat} (k : post (nI (zpr op))) (h : op < 45) : wpX_proceduresTakenBy post (nI op) := by
  unfold wpX_proceduresTakenBy
  refine pk_lt op 14 (fun h1 => ?_) (fun h1 => pk_lt 19 op (fun h2 => ?_) (fun h2 => pk_eq op 14 (fun e => by subst e; exact k) (fun _ => pk_eq op 15 (fun e => by subst e; exact k) (fun _ => pk_eq op 16 (fun e => by subst e; exact k) (fun _ => pk_eq op 17 (fun e => by subst e; exact k) (fun _ => pk_eq op 18 (fun e => by subst e; exact k) (fun _ => pk_eq op 19 (fun e => by subst e; exact k) (fun _ => trivial))))))))
  · have e : zpr op = 0 := by unfold zpr; rw [if_neg (by omega), if_neg (by omega)]
    rw [e] at k; exact k
  · have e : zpr op = 0 := by unfold zpr; rw [if_neg (by omega), if_neg (by omega)]
    rw [e] at k; exact k
def zyt50 (x : Int32) : Int32 := if x = 5 then 1 else if x = 8 then 1 else if x = 9 then 1 else if x = 11 then 1 else if x = 14 then 1 else if x = 19 then 1 else if x = 24 then 1 else if x = 26 then 1 else if x = 27 then 1 else if x = 16 then 3 else if x = 18 then 4 else if x = 44 then 4 else if x = 33 then 6 else 2
def zyt24 (x : Int32) : Int32 := if x = 25 then 0 else if x = 28 then 0 else if x < 34 then zyt50 x else if 42 < x then zyt50 x else 0
def zyt (x : Int32) : Int32 := if x = 12 then 0 else if x = 13 then 0 else if x < 20 then zyt24 x else if x ≤ 22 then 0 else zyt24 x
theorem y_takes {post : Int32 → Prop} {op : Nat} (h : op < 45) (k : post (nI (ztk op))) : wpY_takes post (nI op) := by
  have e : zyt (nI op) = nI (ztk op) := (by decide +kernel : ∀ op, op < 45 → zyt (nI op) = nI (ztk op)) op h
  rw [← e] at k
  unfold wpY_takes wY_takes_24 wY_takes_50
  simp only [zh post]
  exact k
def zyp (x : Int32) : Int32 := if x = 14 then 1 else if x = 15 then 1 else if x = 17 then 1 else if x = 18 then 1 else if x = 19 then 1 else if x = 16 then 3 else 0
theorem y_procs {post : Int32 → Prop} (x : Int32) (k : post (zyp x)) : wpY_procedures post x := by
  unfold wpY_procedures
  simp only [zh post]
  exact k
def zyu (x : Int32) : Int32 := if x ≤ 7 then 1 else if x = 11 then 1 else if x = 12 then 1 else if x = 43 then 1 else if x = 9 then 2 else if x = 10 then 2 else if x = 35 then 2 else 0
theorem y_puts {post : Int32 → Prop} {op : Nat} (h : op < 45) (k : post (nI (zpt op))) : wpY_puts post (nI op) := by
  have e : zyu (nI op) = nI (zpt op) := (by decide +kernel : ∀ op, op < 45 → zyu (nI op) = nI (zpt op)) op h
  rw [← e] at k
  unfold wpY_puts
  simp only [zh post]
  exact k
theorem x_putBy {post : Int32 → Prop} {op : Nat} (h : op < 45) (k : post (nI (zpt op))) : wpX_putBy post (nI op) := by
  have e : zyu (nI op) = nI (zpt op) := (by decide +kernel : ∀ op, op < 45 → zyu (nI op) = nI (zpt op)) op h
  rw [← e] at k
  unfold wpX_putBy
  simp only [zh post]
  exact k
def zxa (x : Int32) : Int32 := if x = 7 then 1 else if x = 8 then 1 else if x = 9 then 1 else if x = 10 then 1 else 0
theorem x_anyKind {post : Int32 → Prop} {op : Nat} (h : op < 45) (k : post (if zan op then 1 else 0)) : wpX_takesAnyKind post (nI op) := by
  have e : zxa (nI op) = (if zan op then 1 else 0) := (by decide +kernel : ∀ op, op < 45 → zxa (nI op) = (if zan op then 1 else 0)) op h
  rw [← e] at k
  unfold wpX_takesAnyKind
  simp only [zh post]
  exact k
section
variable {tc ob ps su ep sd bc mA mB oX oY gY wD pC sC yt yo yh yi ya ye yp ys yc nw gn bg wd : Int32} {tk tv cb sk sv vk vv bp br bh bn bs bl px py pm cr sn sx sy sm sp dg hw fr og lf st la fm fc gr wi mn qx qy ss cl cp nx ny : Nat → Int32}
theorem x_put {post : Int32 → SX → Prop} {p0 p1 : Int32} {h : Nat} (hs : sd = nI h) (hh : h < 24) (k : post 0 (tc, ob, ps, su, ep, nI (h + 1), bc, mA, mB, oX, oY, gY, wD, pC, sC, tk, tv, cb, upd sk h p0, upd sv h p1, vk, vv, bp, br, bh, bn, bs, bl, px, py, pm, cr, sn, sx, sy, sm, sp, dg)) : wpX_put post (tc, ob, ps, su, ep, sd, bc, mA, mB, oX, oY, gY, wD, pC, sC, tk, tv, cb, sk, sv, vk, vv, bp, br, bh, bn, bs, bl, px, py, pm, cr, sn, sx, sy, sm, sp, dg) p0 p1 := by
  subst hs
  have e : (nI h).toNatClampNeg = h := zc_i (by omega)
  rw [← e] at k
  rw [e] at k
  unfold wpX_put
  refine qs_t h 24 hh ⟨vp_in_nI hh (by omega), nm_r (congrArg (fun q => upd sk q p0) e) ⟨vp_in_nI hh (by omega), nm_r (congrArg (fun q => upd sv q p1) e) (nm_r (nI_1 h) k)⟩⟩
theorem x_putF {post : Int32 → SX → Prop} {p0 p1 : Int32} {h : Nat} (hs : sd = nI h) (hh : h = 24) (k : post 2 (tc, ob, ps, su, ep, sd, bc, mA, mB, oX, oY, gY, wD, pC, sC, tk, tv, cb, sk, sv, vk, vv, bp, br, bh, bn, bs, bl, px, py, pm, cr, sn, sx, sy, sm, sp, dg)) : wpX_put post (tc, ob, ps, su, ep, sd, bc, mA, mB, oX, oY, gY, wD, pC, sC, tk, tv, cb, sk, sv, vk, vv, bp, br, bh, bn, bs, bl, px, py, pm, cr, sn, sx, sy, sm, sp, dg) p0 p1 := by
  subst hs hh
  unfold wpX_put
  exact qs_f 24 24 (by omega) k
theorem y_put {post : SY → Prop} {p0 p1 : Int32} {h : Nat} (hs : yh = nI h) (hh : h < 24) (k : post (yt, yo, nI (h + 1), yi, ya, ye, yp, ys, yc, nw, gn, bg, wd, tk, tv, dg, upd sk h p0, upd sv h p1, vk, vv, hw, fr, og, lf, st, la, fm, fc, gr, wi, mn, qx, qy, ss, cl, cp, nx, ny)) : wpY_put post (yt, yo, yh, yi, ya, ye, yp, ys, yc, nw, gn, bg, wd, tk, tv, dg, sk, sv, vk, vv, hw, fr, og, lf, st, la, fm, fc, gr, wi, mn, qx, qy, ss, cl, cp, nx, ny) p0 p1 := by
  subst hs
  have e : (nI h).toNatClampNeg = h := zc_i (by omega)
  unfold wpY_put
  exact ⟨vp_in_nI hh (by omega), nm_r (congrArg (fun q => upd sk q p0) e) ⟨vp_in_nI hh (by omega), nm_r (congrArg (fun q => upd sv q p1) e) (nm_r (nI_1 h) k)⟩⟩
theorem x_operand {post : Int32 → Prop} {i : Int32} {h j : Nat} (hs : sd = nI h) (hi : i = nI j) (hh : h ≤ 24) (hj : j < h) (k : post (sv (h - 1 - j))) : wpX_operand post (tc, ob, ps, su, ep, sd, bc, mA, mB, oX, oY, gY, wD, pC, sC, tk, tv, cb, sk, sv, vk, vv, bp, br, bh, bn, bs, bl, px, py, pm, cr, sn, sx, sy, sm, sp, dg) i := by
  subst hs hi
  unfold wpX_operand
  refine nm_r (zs_1 hj) (qs_f (h - 1 - j) 0 (by omega) (ql_f 24 (h - 1 - j) (by omega) ⟨vp_in_nI (by omega) (by omega), ?_⟩))
  rw [zc_i (by omega)]
  exact k
theorem x_operandKind {post : Int32 → Prop} {i : Int32} {h j : Nat} (hs : sd = nI h) (hi : i = nI j) (hh : h ≤ 24) (hj : j < h) (k : post (sk (h - 1 - j))) : wpX_operandKind post (tc, ob, ps, su, ep, sd, bc, mA, mB, oX, oY, gY, wD, pC, sC, tk, tv, cb, sk, sv, vk, vv, bp, br, bh, bn, bs, bl, px, py, pm, cr, sn, sx, sy, sm, sp, dg) i := by
  subst hs hi
  unfold wpX_operandKind
  refine nm_r (zs_1 hj) (qs_f (h - 1 - j) 0 (by omega) (ql_f 24 (h - 1 - j) (by omega) ⟨vp_in_nI (by omega) (by omega), ?_⟩))
  rw [zc_i (by omega)]
  exact k
/-- an operand that may not be there: some number -/
theorem x_operandA {post : Int32 → Prop} {i : Int32} {h j : Nat} (hs : sd = nI h) (hi : i = nI j) (hh : h ≤ 24) (hj : j < 24) (k : ∀ x, post x) : wpX_operand post (tc, ob, ps, su, ep, sd, bc, mA, mB, oX, oY, gY, wD, pC, sC, tk, tv, cb, sk, sv, vk, vv, bp, br, bh, bn, bs, bl, px, py, pm, cr, sn, sx, sy, sm, sp, dg) i := by
  subst hs hi
  unfold wpX_operand
  by_cases hjh : j < h
  · refine nm_r (zs_1 hjh) (qs_f (h - 1 - j) 0 (by omega) (ql_f 24 (h - 1 - j) (by omega) ⟨vp_in_nI (by omega) (by omega), k _⟩))
  · refine nm_e (br_t ?_ (k _))
    have e : nI h - 1 - nI j = nI h - nI (j + 1) := by
      rw [← nI_1]; grind
    rw [e]
    exact pk_sneg (by omega) (by omega)
theorem y_top {post : Int32 → Prop} {i : Int32} {h j : Nat} (hs : yh = nI h) (hi : i = nI j) (hh : h ≤ 24) (hj : j < h) (k : post (sv (h - 1 - j))) : wpY_top post (yt, yo, yh, yi, ya, ye, yp, ys, yc, nw, gn, bg, wd, tk, tv, dg, sk, sv, vk, vv, hw, fr, og, lf, st, la, fm, fc, gr, wi, mn, qx, qy, ss, cl, cp, nx, ny) i := by
  subst hs hi
  show vp_in (nI h - 1 - nI j) 24 ∧ post (sv (nI h - 1 - nI j).toNatClampNeg)
  rw [zs_1 hj, zc_i (by omega)]
  exact ⟨vp_in_nI (by omega) (by omega), k⟩
theorem y_isProc {post : Int32 → Prop} {i : Int32} {h j : Nat} (hs : yh = nI h) (hi : i = nI j) (hh : h ≤ 24) (hj : j < h) (k : post (if sk (h - 1 - j) = 1 then 1 else 0)) : wpY_isProcedure post (yt, yo, yh, yi, ya, ye, yp, ys, yc, nw, gn, bg, wd, tk, tv, dg, sk, sv, vk, vv, hw, fr, og, lf, st, la, fm, fc, gr, wi, mn, qx, qy, ss, cl, cp, nx, ny) i := by
  subst hs hi
  show vp_in (nI h - 1 - nI j) 24 ∧ ((sk (nI h - 1 - nI j).toNatClampNeg = 1 → post 1) ∧ (¬ sk (nI h - 1 - nI j).toNatClampNeg = 1 → post 0))
  rw [zs_1 hj, zc_i (by omega)]
  exact ⟨vp_in_nI (by omega) (by omega), (zh post _ _ _).mpr k⟩
end
/-! ===== the errors that are tested first ===== -/
def zmx (op h : Nat) (sk : Nat → Int32) : Nat → Nat → Bool
  | 0, _ => false
  | d + 1, k => if sk (h - 1 - k) = zwt op k then zmx op h sk d (k + 1) else true
theorem zmx_f {op h : Nat} {sk : Nat → Int32} : ∀ d k, zmx op h sk d k = false → ∀ j, k ≤ j → j < k + d → sk (h - 1 - j) = zwt op j := by
  intro d
  induction d with
  | zero => intro k _ j h1 h2; omega
  | succ d ih =>
    intro k hm j h1 h2
    unfold zmx at hm
    by_cases e : sk (h - 1 - k) = zwt op k
    · rw [if_pos e] at hm
      by_cases hj : j = k
      · rw [hj]; exact e
      · exact ih (k + 1) hm j (by omega) (by omega)
    · rw [if_neg e] at hm
      exact absurd hm (by decide)
def ZE1 (op h : Nat) (sk : Nat → Int32) (pc : Nat) : Nat :=
  if h < ztk op then 1 else if zan op = false ∧ zmx op h sk (ztk op) 0 = true then 3 else if 30 ≤ op ∧ op ≤ 35 ∧ pc = 0 then 6 else if 24 < h - ztk op + zpt op then 2 else 0
section
variable {tc ob ps su ep sd bc mA mB oX oY gY wD pC sC yt yo yh yi ya ye yp ys yc nw gn bg wd : Int32} {tk tv cb sk sv vk vv bp br bh bn bs bl px py pm cr sn sx sy sm sp dg hw fr og lf st la fm fc gr wi mn qx qy ss cl cp nx ny : Nat → Int32}
theorem x_oe94 {post : Int32 → Prop} {op h : Nat} (hop : op < 45) (hh : h ≤ 24) (ht : ztk op ≤ h) (k : post (nI (if 24 < h - ztk op + zpt op then 2 else 0))) : wX_operandError_94 post (nI op) (nI (ztk op)) tc ob ps su ep (nI h) bc mA mB oX oY gY wD pC sC tk tv cb sk sv vk vv bp br bh bn bs bl px py pm cr sn sx sy sm sp dg := by
  unfold wX_operandError_94
  refine nm_r (pk_sub ht) (x_putBy hop ?_)
  have := zpt_le op
  rw [nI_add]
  refine pk_le (h - ztk op + zpt op) 24 (fun h1 => ?_) (fun h1 => ?_)
  · rw [if_neg (by omega)] at k; exact k
  · rw [if_pos (by omega)] at k; exact k
theorem x_oe72 {post : Int32 → Prop} {op h pc : Nat} (hop : op < 45) (hh : h ≤ 24) (hp : pc ≤ 48) (ht : ztk op ≤ h) (k : post (nI (if 30 ≤ op ∧ op ≤ 35 ∧ pc = 0 then 6 else if 24 < h - ztk op + zpt op then 2 else 0))) : wX_operandError_72 post (nI op) (nI (ztk op)) tc ob ps su ep (nI h) bc mA mB oX oY gY wD (nI pc) sC tk tv cb sk sv vk vv bp br bh bn bs bl px py pm cr sn sx sy sm sp dg := by
  unfold wX_operandError_72
  refine pk_lt op 30 (fun h1 => ?_) (fun h1 => pk_lt 35 op (fun h2 => ?_) (fun h2 => pk_eq pc 0 (fun h3 => ?_) (fun h3 => ?_)))
  · rw [if_neg (by omega)] at k; exact x_oe94 hop hh ht k
  · rw [if_neg (by omega)] at k; exact x_oe94 hop hh ht k
  · rw [if_pos (by omega)] at k; exact k
  · rw [if_neg (by omega)] at k; exact x_oe94 hop hh ht k
theorem x_oe29 {post : Int32 → Prop} {op h pc : Nat} (hop : op < 45) (hh : h ≤ 24) (hp : pc ≤ 48) (ht : ztk op ≤ h) (hz : zan op = false) :
    ∀ d j, j + d = ztk op → post (nI (if zmx op h sk d j = true then 3 else if 30 ≤ op ∧ op ≤ 35 ∧ pc = 0 then 6 else if 24 < h - ztk op + zpt op then 2 else 0)) →
      wX_operandError_29 post (nI op) (nI (ztk op)) (nI (zpr op)) 0 tc ob ps su ep (nI h) bc mA mB oX oY gY wD (nI pc) sC tk tv cb sk sv vk vv bp br bh bn bs bl px py pm cr sn sx sy sm sp dg (d + 1) (nI j) := by
  intro d
  induction d with
  | zero =>
    intro j hj k
    rw [if_neg (by unfold zmx; decide)] at k
    have := ztk_le op
    exact ql_t (ztk op) j (by omega) (x_oe72 hop hh hp ht k)
  | succ d ih =>
    intro j hj k
    have := ztk_le op
    have hpr : zpr op ≤ 2 := by
      unfold zpr
      split
      · omega
      · split <;> omega
    have go : ∀ z : Int32, z = zwt op j → wX_operandError_51 post (wX_operandError_29 post (nI op) (nI (ztk op)) (nI (zpr op)) 0 tc ob ps su ep (nI h) bc mA mB oX oY gY wD (nI pc) sC tk tv cb sk sv vk vv bp br bh bn bs bl px py pm cr sn sx sy sm sp dg (d + 1)) (nI op) (nI (ztk op)) (nI (zpr op)) 0 (nI j) z tc ob ps su ep (nI h) bc mA mB oX oY gY wD (nI pc) sC tk tv cb sk sv vk vv bp br bh bn bs bl px py pm cr sn sx sy sm sp dg := by
      intro z hz'
      unfold wX_operandError_51
      refine x_operandKind rfl rfl hh (by omega) ?_
      subst hz'
      refine br_c (fun e => ?_) (fun e => ?_)
      · refine nm_r (nI_1 j) (ih (j + 1) (by omega) ?_)
        unfold zmx at k
        rw [if_pos e] at k
        exact k
      · unfold zmx at k
        rw [if_neg e, if_pos rfl] at k
        exact k
    refine ql_f (ztk op) j (by omega) (br_t rfl (pk_le (zpr op) j (fun h1 => go 0 ?_) (fun h1 => go 1 ?_)))
    · unfold zwt; rw [if_neg (by omega)]
    · unfold zwt; rw [if_pos (by omega)]
theorem x_oe {post : Int32 → Prop} {op h pc : Nat} (hop : op < 45) (hh : h ≤ 24) (hp : pc ≤ 48) (hs : sd = nI h) (hc : pC = nI pc) (k : post (nI (ZE1 op h sk pc))) : wpX_operandError post (tc, ob, ps, su, ep, sd, bc, mA, mB, oX, oY, gY, wD, pC, sC, tk, tv, cb, sk, sv, vk, vv, bp, br, bh, bn, bs, bl, px, py, pm, cr, sn, sx, sy, sm, sp, dg) (nI op) := by
  subst hs hc
  unfold wpX_operandError
  have h6 := ztk_le op
  refine x_takenBy hop (pk_le (ztk op) h (fun h1 => x_procs (x_anyKind hop ?_) hop) (fun h1 => ?_))
  · unfold ZE1 at k
    rw [if_neg (by omega)] at k
    by_cases hz : zan op = true
    · rw [if_pos hz]
      rw [if_neg (fun z => by rw [hz] at z; exact absurd z.1 (by decide))] at k
      refine ⟨1, pk_le (ztk op) 0 (fun h2 => x_oe72 hop hh hp h1 k) (fun h2 => br_f (by decide) (x_oe72 hop hh hp h1 k))⟩
    · have hz' : zan op = false := by simpa using hz
      rw [if_neg hz]
      refine ⟨ztk op + 1, x_oe29 hop hh hp h1 hz' (ztk op) 0 (by omega) ?_⟩
      by_cases hm : zmx op h sk (ztk op) 0 = true
      · rw [if_pos ⟨hz', hm⟩] at k; rw [if_pos hm]; exact k
      · rw [if_neg (fun z => hm z.2)] at k; rw [if_neg hm]; exact k
  · unfold ZE1 at k
    rw [if_pos h1] at k
    exact k
end
end
section
section
variable {tc ob ps su ep sd bc mA mB oX oY gY wD pC sC yt yo yh yi ya ye yp ys yc nw gn bg wd : Int32} {tk tv cb sk sv vk vv bp br bh bn bs bl px py pm cr sn sx sy sm sp dg hw fr og lf st la fm fc gr wi mn qx qy ss cl cp nx ny : Nat → Int32}
/-! ===== the beginnings ===== -/
theorem x_openClip_l {post : SX → Prop} : ∀ (d j : Nat) (cr : Nat → Int32), j + d = 24 → post (tc, ob, ps, su, ep, sd, bc, mA, mB, oX, oY, gY, wD, pC, sC, tk, tv, cb, sk, sv, vk, vv, bp, br, bh, bn, bs, bl, px, py, pm, zf cr j 24 (fun _ => 16777215), sn, sx, sy, sm, sp, dg) → wX_openClip_2 post tc ob ps su ep sd bc mA mB oX oY gY wD pC sC (d + 1) (nI j) tk tv cb sk sv vk vv bp br bh bn bs bl px py pm cr sn sx sy sm sp dg := by
  intro d
  induction d with
  | zero =>
    intro j cr hj k
    have : j = 24 := by omega
    subst this
    rw [zf_z] at k
    exact ql_t 24 24 (by omega) k
  | succ d ih =>
    intro j cr hj k
    refine ql_f 24 j (by omega) ⟨vp_in_nI (by omega) (by omega), nm_r (congrArg (fun q => upd cr q 16777215) (zc_i (by omega))) (nm_r (nI_1 j) (ih (j + 1) _ (by omega) ?_))⟩
    rw [zf_s (g := fun _ => 16777215) (by omega)]
    exact k
theorem x_openClip {post : SX → Prop} (k : post (tc, ob, ps, su, ep, sd, bc, mA, mB, oX, oY, gY, wD, pC, sC, tk, tv, cb, sk, sv, vk, vv, bp, br, bh, bn, bs, bl, px, py, pm, zf cr 0 24 (fun _ => 16777215), sn, sx, sy, sm, sp, dg)) : wpX_openClip post (tc, ob, ps, su, ep, sd, bc, mA, mB, oX, oY, gY, wD, pC, sC, tk, tv, cb, sk, sv, vk, vv, bp, br, bh, bn, bs, bl, px, py, pm, cr, sn, sx, sy, sm, sp, dg) := ⟨25, x_openClip_l 24 0 cr rfl k⟩
theorem x_beginRun_l {post : SX → Prop} : ∀ (d j : Nat) (vk vv : Nat → Int32), j + d = 8 →
    post (tc, ob, ps, su, ep, sd, bc, 1, 0, 0, 0, 0, 2, 0, sC, tk, tv, cb, sk, sv, zf vk j 8 (fun _ => 0), zf vv j 8 (fun _ => 0), bp, br, bh, bn, bs, bl, px, py, pm, zf cr 0 24 (fun _ => 16777215), sn, sx, sy, sm, sp, dg) → wX_beginRun_32 post tc ob ps su ep sd bc mA mB oX oY gY wD pC sC (d + 1) (nI j) tk tv cb sk sv vk vv bp br bh bn bs bl px py pm cr sn sx sy sm sp dg := by
  intro d
  induction d with
  | zero =>
    intro j vk vv hj k
    have : j = 8 := by omega
    subst this
    rw [zf_z, zf_z] at k
    exact ql_t 8 8 (by omega) (x_openClip k)
  | succ d ih =>
    intro j vk vv hj k
    refine ql_f 8 j (by omega) ⟨vp_in_nI (by omega) (by omega), nm_r (congrArg (fun q => upd vk q 0) (zc_i (by omega))) ⟨vp_in_nI (by omega) (by omega), nm_r (congrArg (fun q => upd vv q 0) (zc_i (by omega))) (nm_r (nI_1 j) (ih (j + 1) _ _ (by omega) ?_))⟩⟩
    rw [zf_s (g := fun _ => 0) (by omega), zf_s (g := fun _ => 0) (by omega)]
    exact k
theorem x_beginRun {post : SX → Prop} (k : post (tc, ob, 0, 0, -1, 0, 0, 1, 0, 0, 0, 0, 2, 0, 0, tk, tv, cb, sk, sv, zf vk 0 8 (fun _ => 0), zf vv 0 8 (fun _ => 0), bp, br, bh, bn, bs, bl, px, py, pm, zf cr 0 24 (fun _ => 16777215), sn, sx, sy, sm, sp, dg)) : wpX_beginRun post (tc, ob, ps, su, ep, sd, bc, mA, mB, oX, oY, gY, wD, pC, sC, tk, tv, cb, sk, sv, vk, vv, bp, br, bh, bn, bs, bl, px, py, pm, cr, sn, sx, sy, sm, sp, dg) := ⟨9, x_beginRun_l 8 0 vk vv rfl k⟩
theorem y_init_l {post : SY → Prop} : ∀ (d j : Nat) (cp : Nat → Int32), j + d = 576 → post (yt, yo, yh, yi, ya, ye, yp, ys, yc, nw, gn, bg, wd, tk, tv, dg, sk, sv, vk, vv, hw, fr, og, lf, st, la, fm, fc, gr, wi, mn, qx, qy, ss, cl, zf cp j 576 (fun _ => 1), nx, ny) → wY_init_213 post yt yo yh yi ya ye yp ys yc nw gn bg wd (d + 1) (nI j) tk tv dg sk sv vk vv hw fr og lf st la fm fc gr wi mn qx qy ss cl cp nx ny := by
  intro d
  induction d with
  | zero =>
    intro j cp hj k
    have : j = 576 := by omega
    subst this
    rw [zf_z] at k
    exact ql_t 576 576 (by omega) k
  | succ d ih =>
    intro j cp hj k
    refine ql_f 576 j (by omega) ⟨vp_in_nI (by omega) (by omega), nm_r (congrArg (fun q => upd cp q 1) (zc_i (by omega))) (nm_r (nI_1 j) (ih (j + 1) _ (by omega) ?_))⟩
    rw [zf_s (g := fun _ => 1) (by omega)]
    exact k
theorem y_begin3 {post : SY → Prop} : ∀ (d j : Nat) (cp : Nat → Int32), j + d = 576 → post (yt, yo, yh, yi, ya, ye, yp, ys, yc, nw, gn, bg, wd, tk, tv, dg, sk, sv, vk, vv, hw, fr, og, lf, st, la, fm, fc, gr, wi, mn, qx, qy, ss, cl, zf cp j 576 (fun _ => 1), nx, ny) → wY_begin_127 post yt yo yh yi ya ye yp ys yc nw gn bg wd (d + 1) (nI j) tk tv dg sk sv vk vv hw fr og lf st la fm fc gr wi mn qx qy ss cl cp nx ny := by
  intro d
  induction d with
  | zero =>
    intro j cp hj k
    have : j = 576 := by omega
    subst this
    rw [zf_z] at k
    exact ql_t 576 576 (by omega) k
  | succ d ih =>
    intro j cp hj k
    refine ql_f 576 j (by omega) ⟨vp_in_nI (by omega) (by omega), nm_r (congrArg (fun q => upd cp q 1) (zc_i (by omega))) (nm_r (nI_1 j) (ih (j + 1) _ (by omega) ?_))⟩
    rw [zf_s (g := fun _ => 1) (by omega)]
    exact k
theorem y_begin2 {post : SY → Prop} : ∀ (d j : Nat) (fm : Nat → Int32), j + d = 6 →
    post (yt, yo, yh, yi, ya, ye, yp, ys, yc, nw, gn, bg, wd, tk, tv, dg, sk, sv, vk, vv, hw, fr, og, lf, st, la, zf fm j 6 (fun k => if k = 0 ∨ k = 4 then 1 else 0), upd fc 0 1, upd gr 0 0, upd wi 0 2, upd mn 0 0, qx, qy, ss, cl, zf cp 0 576 (fun _ => 1), nx, ny) → wY_begin_65 post yt yo yh yi ya ye yp ys yc nw gn bg wd (d + 1) (nI j) tk tv dg sk sv vk vv hw fr og lf st la fm fc gr wi mn qx qy ss cl cp nx ny := by
  intro d
  induction d with
  | zero =>
    intro j fm hj k
    have : j = 6 := by omega
    subst this
    rw [zf_z] at k
    exact ql_t 6 6 (by omega) (nm_e (nm_e (nm_e (nm_e ⟨577, y_begin3 576 0 cp rfl k⟩))))
  | succ d ih =>
    intro j fm hj k
    rw [← zf_s (by omega)] at k
    have e : (nI j).toNatClampNeg = j := zc_i (by omega)
    refine ql_f 6 j (by omega) (pk_eq j 0 (fun h0 => ?_) (fun h0 => pk_eq j 4 (fun h4 => ?_) (fun h4 => ?_)))
    · rw [if_pos (by omega)] at k
      exact ⟨vp_in_nI (by omega) (by omega), nm_r (congrArg (fun q => upd fm q 1) e) (nm_r (nI_1 j) (ih (j + 1) _ (by omega) k))⟩
    · rw [if_pos (by omega)] at k
      exact ⟨vp_in_nI (by omega) (by omega), nm_r (congrArg (fun q => upd fm q 1) e) (nm_r (nI_1 j) (ih (j + 1) _ (by omega) k))⟩
    · rw [if_neg (by omega)] at k
      exact ⟨vp_in_nI (by omega) (by omega), nm_r (congrArg (fun q => upd fm q 0) e) (nm_r (nI_1 j) (ih (j + 1) _ (by omega) k))⟩
theorem y_begin1 {post : SY → Prop} : ∀ (d j : Nat) (vk vv : Nat → Int32), j + d = 8 →
    post (yt, yo, yh, yi, ya, ye, yp, ys, yc, nw, gn, bg, wd, tk, tv, dg, sk, sv, zf vk j 8 (fun _ => 0), zf vv j 8 (fun _ => 0), hw, fr, og, lf, st, la, zf fm 0 6 (fun k => if k = 0 ∨ k = 4 then 1 else 0), upd fc 0 1, upd gr 0 0, upd wi 0 2, upd mn 0 0, qx, qy, ss, cl, zf cp 0 576 (fun _ => 1), nx, ny) → wY_begin_37 post yt yo yh yi ya ye yp ys yc nw gn bg wd (d + 1) (nI j) tk tv dg sk sv vk vv hw fr og lf st la fm fc gr wi mn qx qy ss cl cp nx ny := by
  intro d
  induction d with
  | zero =>
    intro j vk vv hj k
    have : j = 8 := by omega
    subst this
    rw [zf_z, zf_z] at k
    exact ql_t 8 8 (by omega) ⟨7, y_begin2 6 0 fm rfl k⟩
  | succ d ih =>
    intro j vk vv hj k
    refine ql_f 8 j (by omega) ⟨vp_in_nI (by omega) (by omega), nm_r (congrArg (fun q => upd vk q 0) (zc_i (by omega))) ⟨vp_in_nI (by omega) (by omega), nm_r (congrArg (fun q => upd vv q 0) (zc_i (by omega))) (nm_r (nI_1 j) (ih (j + 1) _ _ (by omega) ?_))⟩⟩
    rw [zf_s (g := fun _ => 0) (by omega), zf_s (g := fun _ => 0) (by omega)]
    exact k
theorem y_begin {post : SY → Prop} (k : post (yt, yo, 0, 0, 0, 0, -1, 0, 0, nw, gn, bg, wd, tk, tv, dg, sk, sv, zf vk 0 8 (fun _ => 0), zf vv 0 8 (fun _ => 0), hw, fr, og, lf, st, la, zf fm 0 6 (fun k => if k = 0 ∨ k = 4 then 1 else 0), upd fc 0 1, upd gr 0 0, upd wi 0 2, upd mn 0 0, qx, qy, ss, cl, zf cp 0 576 (fun _ => 1), nx, ny)) : wpY_begin post (yt, yo, yh, yi, ya, ye, yp, ys, yc, nw, gn, bg, wd, tk, tv, dg, sk, sv, vk, vv, hw, fr, og, lf, st, la, fm, fc, gr, wi, mn, qx, qy, ss, cl, cp, nx, ny) := ⟨9, y_begin1 8 0 vk vv rfl k⟩
end
theorem zcp_full {cr cp : Nat → Int32} : ZCP (zf cr 0 24 (fun _ => 16777215)) (zf cp 0 576 (fun _ => 1)) := by
  intro j hj
  rw [zf_in (by omega) hj]
  have h1 : ∀ i, i < 24 → bt 16777215 i = true := by decide +kernel
  have h2 : ∀ i, i < 32 → 24 ≤ i → bt 16777215 i = false := by decide +kernel
  refine ⟨fun i hi => ?_, fun i hi => ?_⟩
  · rw [zf_in (by omega) (by omega)]
    exact ⟨Or.inr rfl, by rw [h1 i hi]; rfl⟩
  · rcases Nat.lt_or_ge i 32 with h | h
    · exact h2 i h hi
    · exact b_big h
theorem zpt_0 {px py pm qx qy ss cl : Nat → Int32} : ZPT 0 px py pm qx qy ss cl := ⟨by omega, fun h => by omega, fun k h => by omega⟩
theorem i_vc0 : wpX_init (fun u => wpY_init (fun v => i_Rel 0 u v)) := by
  unfold wpX_init
  refine x_beginRun ?_
  refine ⟨577, y_init_l 576 0 _ rfl ?_⟩
  exact ⟨⟨0, 0, 0, ⟨rfl, rfl, rfl, by omega⟩, ⟨rfl, rfl, rfl, rfl⟩, ⟨rfl, rfl, rfl, rfl, rfl, zf_self.symm, zf_self.symm⟩, tk_0 _ _ _, ⟨0, rfl, rfl, zpt_0⟩, zcp_full⟩, rfl⟩
/-! ===== the calls that only read ===== -/
theorem i_vc_place {k : Nat} {u : SX} {v : SY} (I : i_Rel k u v) (hk : k + 3 ≤ 1536) : wpX_place (fun r => wpY_place (fun r' => r' = r ∧ i_Rel (k + 3) u v) v) u := by
  have I2 := I
  obtain ⟨tc, ob, ps, su, ep, sd, bc, mA, mB, oX, oY, gY, wD, pC, sC, tk, tv, cb, sk, sv, vk, vv, bp, br, bh, bn, bs, bl, px, py, pm, cr, sn, sx, sy, sm, sp, dg⟩ := u
  obtain ⟨yt, yo, yh, yi, ya, ye, yp, ys, yc, nw, gn, bg, wd, tk', tv', dg', sk', sv', vk', vv', hw, fr, og, lf, st, la, fm, fc, gr, wi, mn, qx, qy, ss, cl, cp, nx, ny⟩ := v
  exact ⟨I.2, I2⟩
theorem i_vc_steps {k : Nat} {u : SX} {v : SY} (I : i_Rel k u v) (hk : k + 3 ≤ 1536) : wpX_steps (fun r => wpY_steps (fun r' => r' = r ∧ i_Rel (k + 3) u v) v) u := by
  have I2 := I
  obtain ⟨tc, ob, ps, su, ep, sd, bc, mA, mB, oX, oY, gY, wD, pC, sC, tk, tv, cb, sk, sv, vk, vv, bp, br, bh, bn, bs, bl, px, py, pm, cr, sn, sx, sy, sm, sp, dg⟩ := u
  obtain ⟨yt, yo, yh, yi, ya, ye, yp, ys, yc, nw, gn, bg, wd, tk', tv', dg', sk', sv', vk', vv', hw, fr, og, lf, st, la, fm, fc, gr, wi, mn, qx, qy, ss, cl, cp, nx, ny⟩ := v
  obtain ⟨⟨t, o, h, ⟨e1, e2, e3, h24⟩, ⟨e4, e5, e6, e7⟩, _⟩, _⟩ := I
  exact ⟨e7, I2⟩
theorem i_vc_depth {k : Nat} {u : SX} {v : SY} (I : i_Rel k u v) (hk : k + 3 ≤ 1536) : wpX_depth (fun r => wpY_depth (fun r' => r' = r ∧ i_Rel (k + 3) u v) v) u := by
  have I2 := I
  obtain ⟨tc, ob, ps, su, ep, sd, bc, mA, mB, oX, oY, gY, wD, pC, sC, tk, tv, cb, sk, sv, vk, vv, bp, br, bh, bn, bs, bl, px, py, pm, cr, sn, sx, sy, sm, sp, dg⟩ := u
  obtain ⟨yt, yo, yh, yi, ya, ye, yp, ys, yc, nw, gn, bg, wd, tk', tv', dg', sk', sv', vk', vv', hw, fr, og, lf, st, la, fm, fc, gr, wi, mn, qx, qy, ss, cl, cp, nx, ny⟩ := v
  obtain ⟨⟨t, o, h, ⟨e1, e2, e3, h24⟩, ⟨e4, e5, e6, e7⟩, _⟩, _⟩ := I
  exact ⟨e6.trans e3.symm, I2⟩
theorem i_vc_points {k : Nat} {u : SX} {v : SY} (I : i_Rel k u v) (hk : k + 3 ≤ 1536) : wpX_points (fun r => wpY_points (fun r' => r' = r ∧ i_Rel (k + 3) u v) v) u := by
  have I2 := I
  obtain ⟨tc, ob, ps, su, ep, sd, bc, mA, mB, oX, oY, gY, wD, pC, sC, tk, tv, cb, sk, sv, vk, vv, bp, br, bh, bn, bs, bl, px, py, pm, cr, sn, sx, sy, sm, sp, dg⟩ := u
  obtain ⟨yt, yo, yh, yi, ya, ye, yp, ys, yc, nw, gn, bg, wd, tk', tv', dg', sk', sv', vk', vv', hw, fr, og, lf, st, la, fm, fc, gr, wi, mn, qx, qy, ss, cl, cp, nx, ny⟩ := v
  obtain ⟨⟨t, o, h, _, _, _, _, ⟨pc, e8, e9, _⟩, _⟩, _⟩ := I
  exact ⟨e9.trans e8.symm, I2⟩
theorem i_vc_kind {k : Nat} {u : SX} {v : SY} (I : i_Rel k u v) (hk : k + 3 ≤ 1536) (v1 : Int32) : wpX_kind (fun r => wpY_kind (fun r' => r' = r ∧ i_Rel (k + 3) u v) v v1) u v1 := by
  have I2 := I
  obtain ⟨tc, ob, ps, su, ep, sd, bc, mA, mB, oX, oY, gY, wD, pC, sC, tk, tv, cb, sk, sv, vk, vv, bp, br, bh, bn, bs, bl, px, py, pm, cr, sn, sx, sy, sm, sp, dg⟩ := u
  obtain ⟨yt, yo, yh, yi, ya, ye, yp, ys, yc, nw, gn, bg, wd, tk', tv', dg', sk', sv', vk', vv', hw, fr, og, lf, st, la, fm, fc, gr, wi, mn, qx, qy, ss, cl, cp, nx, ny⟩ := v
  obtain ⟨⟨t, o, h, ⟨rfl, rfl, rfl, h24⟩, ⟨rfl, rfl, rfl, rfl⟩, ⟨rfl, rfl, rfl, rfl, rfl, rfl, rfl⟩, hT, _, hC⟩, _⟩ := I
  rcases pk_ix v1 (n := h) (by omega) with h1 | h1 | ⟨j, hj, rfl⟩
  · exact br_t h1 (br_t h1 ⟨rfl, I2⟩)
  · have h0 : ¬ v1 < 0 := Int32.not_lt.mpr (Int32.le_trans (nI_pos' (by omega)) h1)
    exact br_f h0 (br_t h1 (br_f h0 (br_f (Int32.not_lt.mpr h1) ⟨rfl, I2⟩)))
  · have hin : vp_in (nI h - 1 - nI j) 24 := by rw [zs_1 hj]; exact vp_in_nI (by omega) (by omega)
    exact qs_f j 0 (by omega) (ql_f h j hj ⟨hin, qs_f j 0 (by omega) (qs_t j h hj ⟨hin, rfl, I2⟩)⟩)
theorem i_vc_value {k : Nat} {u : SX} {v : SY} (I : i_Rel k u v) (hk : k + 3 ≤ 1536) (v1 : Int32) : wpX_value (fun r => wpY_value (fun r' => r' = r ∧ i_Rel (k + 3) u v) v v1) u v1 := by
  have I2 := I
  obtain ⟨tc, ob, ps, su, ep, sd, bc, mA, mB, oX, oY, gY, wD, pC, sC, tk, tv, cb, sk, sv, vk, vv, bp, br, bh, bn, bs, bl, px, py, pm, cr, sn, sx, sy, sm, sp, dg⟩ := u
  obtain ⟨yt, yo, yh, yi, ya, ye, yp, ys, yc, nw, gn, bg, wd, tk', tv', dg', sk', sv', vk', vv', hw, fr, og, lf, st, la, fm, fc, gr, wi, mn, qx, qy, ss, cl, cp, nx, ny⟩ := v
  obtain ⟨⟨t, o, h, ⟨rfl, rfl, rfl, h24⟩, ⟨rfl, rfl, rfl, rfl⟩, ⟨rfl, rfl, rfl, rfl, rfl, rfl, rfl⟩, hT, _, hC⟩, _⟩ := I
  rcases pk_ix v1 (n := h) (by omega) with h1 | h1 | ⟨j, hj, rfl⟩
  · exact br_t h1 (br_t h1 ⟨rfl, I2⟩)
  · have h0 : ¬ v1 < 0 := Int32.not_lt.mpr (Int32.le_trans (nI_pos' (by omega)) h1)
    exact br_f h0 (br_t h1 (br_f h0 (br_f (Int32.not_lt.mpr h1) ⟨rfl, I2⟩)))
  · have hin : vp_in (nI h - 1 - nI j) 24 := by rw [zs_1 hj]; exact vp_in_nI (by omega) (by omega)
    exact qs_f j 0 (by omega) (ql_f h j hj ⟨hin, qs_f j 0 (by omega) (qs_t j h hj ⟨hin, rfl, I2⟩)⟩)
section
variable {tc ob ps su ep sd bc mA mB oX oY gY wD pC sC yt yo yh yi ya ye yp ys yc nw gn bg wd : Int32} {tk tv cb sk sv vk vv bp br bh bn bs bl px py pm cr sn sx sy sm sp dg hw fr og lf st la fm fc gr wi mn qx qy ss cl cp nx ny : Nat → Int32}
def zdt (dg : Nat → Int32) (i j : Int32) : Int32 := if i < 0 then -1 else if 24 ≤ i then -1 else if j < 0 then -1 else if 24 ≤ j then -1 else dg (24 * j + i).toNatClampNeg
theorem zd_in {i j : Nat} (hi : i < 24) (hj : j < 24) : 24 * nI j + nI i = nI (24 * j + i) := by
  show nI 24 * nI j + nI i = _
  rw [pk_mul, nI_add]
theorem x_grayAt {post : Int32 → Prop} {i j : Int32} (k : post (zdt dg i j)) : wpX_grayAt post (tc, ob, ps, su, ep, sd, bc, mA, mB, oX, oY, gY, wD, pC, sC, tk, tv, cb, sk, sv, vk, vv, bp, br, bh, bn, bs, bl, px, py, pm, cr, sn, sx, sy, sm, sp, dg) i j := by
  unfold zdt at k
  refine br_c (fun h1 => ?_) (fun h1 => br_c (fun h2 => ?_) (fun h2 => br_c (fun h3 => ?_) (fun h3 => br_c (fun h4 => ?_) (fun h4 => br_f (by decide) ?_))))
  · rw [if_pos h1] at k; exact br_t rfl k
  · rw [if_neg h1, if_pos h2] at k; exact br_t rfl k
  · rw [if_neg h1, if_neg h2, if_pos h3] at k; exact br_t rfl k
  · rw [if_neg h1, if_neg h2, if_neg h3, if_pos h4] at k; exact br_t rfl k
  · rw [if_neg h1, if_neg h2, if_neg h3, if_neg h4] at k
    obtain ⟨a, ha, rfl⟩ : ∃ a : Nat, a < 24 ∧ i = nI a := by
      rcases pk_ix i (n := 24) (by omega) with h | h | h
      · exact absurd h h1
      · exact absurd h h2
      · exact h
    obtain ⟨b, hb, rfl⟩ : ∃ b : Nat, b < 24 ∧ j = nI b := by
      rcases pk_ix j (n := 24) (by omega) with h | h | h
      · exact absurd h h3
      · exact absurd h h4
      · exact h
    have e : nI b * 24 + nI a = 24 * nI b + nI a := by rw [Int32.mul_comm]
    rw [e]
    refine ⟨?_, k⟩
    rw [zd_in ha hb]
    exact vp_in_nI (by omega) (by omega)
theorem y_dot {post : Int32 → Prop} {i j : Int32} (k : post (zdt dg i j)) : wpY_dot post (yt, yo, yh, yi, ya, ye, yp, ys, yc, nw, gn, bg, wd, tk, tv, dg, sk, sv, vk, vv, hw, fr, og, lf, st, la, fm, fc, gr, wi, mn, qx, qy, ss, cl, cp, nx, ny) i j := by
  unfold zdt at k
  rcases pk_ix i (n := 24) (by omega) with h | h | ⟨a, ha, rfl⟩
  · rw [if_pos h] at k; exact br_t h k
  · have h0 : ¬ i < 0 := Int32.not_lt.mpr (Int32.le_trans (nI_pos' (by omega)) h)
    have h2 : (23 : Int32) < i := Int32.lt_of_lt_of_le (by decide : (23 : Int32) < nI 24) h
    rw [if_neg h0, if_pos (show (24 : Int32) ≤ i from h)] at k
    exact br_f h0 (br_t h2 k)
  · rw [if_neg (nI_pos (by omega)), if_neg (show ¬ (24 : Int32) ≤ nI a from nI_ge (b := 24) ha (by decide))] at k
    refine br_f (nI_pos (by omega)) (qs_f 23 a (by omega) ?_)
    rcases pk_ix j (n := 24) (by omega) with h | h | ⟨b, hb, rfl⟩
    · rw [if_pos h] at k; exact br_t h k
    · have h0 : ¬ j < 0 := Int32.not_lt.mpr (Int32.le_trans (nI_pos' (by omega)) h)
      have h2 : ¬ j ≤ (23 : Int32) := Int32.not_le.mpr (Int32.lt_of_lt_of_le (by decide : (23 : Int32) < nI 24) h)
      rw [if_neg h0, if_pos (show (24 : Int32) ≤ j from h)] at k
      exact br_f h0 (br_f h2 k)
    · rw [if_neg (nI_pos (by omega)), if_neg (show ¬ (24 : Int32) ≤ nI b from nI_ge (b := 24) hb (by decide))] at k
      refine br_f (nI_pos (by omega)) (ql_t b 23 (by omega) ⟨?_, k⟩)
      rw [zd_in ha hb]
      exact vp_in_nI (by omega) (by omega)
def zcn (dg : Nat → Int32) (g : Int32) : Nat → Nat → Int32 → Int32
  | 0, _, x => x
  | d + 1, j, x => zcn dg g d (j + 1) (if dg j = g then x + 1 else x)
theorem x_count_l {post : Int32 → Prop} {g : Int32} : ∀ (d j : Nat) (x : Int32), j + d = 576 → post (zcn dg g d j x) → wX_count_4 post g tc ob ps su ep sd bc mA mB oX oY gY wD pC sC tk tv cb sk sv vk vv bp br bh bn bs bl px py pm cr sn sx sy sm sp dg (d + 1) x (nI j) := by
  intro d
  induction d with
  | zero =>
    intro j x hj k
    exact ql_t 576 j (by omega) k
  | succ d ih =>
    intro j x hj k
    refine ql_f 576 j (by omega) ⟨vp_in_nI (by omega) (by omega), ?_⟩
    rw [zc_i (by omega)]
    unfold zcn at k
    refine br_c (fun e => ?_) (fun e => ?_)
    · rw [if_pos e] at k; exact nm_e (nm_r (nI_1 j) (ih (j + 1) _ (by omega) k))
    · rw [if_neg e] at k; exact nm_r (nI_1 j) (ih (j + 1) _ (by omega) k)
theorem y_count_l {post : Int32 → Prop} {g : Int32} : ∀ (d j : Nat) (x : Int32), j + d = 576 → post (zcn dg g d j x) → wY_count_4 post g yt yo yh yi ya ye yp ys yc nw gn bg wd tk tv dg sk sv vk vv hw fr og lf st la fm fc gr wi mn qx qy ss cl cp nx ny (d + 1) x (nI j) := by
  intro d
  induction d with
  | zero =>
    intro j x hj k
    exact ql_t 576 j (by omega) k
  | succ d ih =>
    intro j x hj k
    refine ql_f 576 j (by omega) ⟨vp_in_nI (by omega) (by omega), ?_⟩
    rw [zc_i (by omega)]
    unfold zcn at k
    refine br_c (fun e => ?_) (fun e => ?_)
    · rw [if_pos e] at k; exact nm_e (nm_r (nI_1 j) (ih (j + 1) _ (by omega) k))
    · rw [if_neg e] at k; exact nm_r (nI_1 j) (ih (j + 1) _ (by omega) k)
end
theorem i_vc_dot {k : Nat} {u : SX} {v : SY} (I : i_Rel k u v) (hk : k + 3 ≤ 1536) (v1 : Int32) (v2 : Int32) : wpX_dot (fun r => wpY_dot (fun r' => r' = r ∧ i_Rel (k + 3) u v) v v1 v2) u v1 v2 := by
  have I2 := I
  obtain ⟨tc, ob, ps, su, ep, sd, bc, mA, mB, oX, oY, gY, wD, pC, sC, tk, tv, cb, sk, sv, vk, vv, bp, br, bh, bn, bs, bl, px, py, pm, cr, sn, sx, sy, sm, sp, dg⟩ := u
  obtain ⟨yt, yo, yh, yi, ya, ye, yp, ys, yc, nw, gn, bg, wd, tk', tv', dg', sk', sv', vk', vv', hw, fr, og, lf, st, la, fm, fc, gr, wi, mn, qx, qy, ss, cl, cp, nx, ny⟩ := v
  obtain ⟨⟨t, o, h, ⟨rfl, rfl, rfl, h24⟩, ⟨rfl, rfl, rfl, rfl⟩, ⟨rfl, rfl, rfl, rfl, rfl, rfl, rfl⟩, hT, _, hC⟩, _⟩ := I
  unfold wpX_dot
  exact x_grayAt (y_dot ⟨rfl, I2⟩)
theorem i_vc_count {k : Nat} {u : SX} {v : SY} (I : i_Rel k u v) (hk : k + 3 ≤ 1536) (v1 : Int32) : wpX_count (fun r => wpY_count (fun r' => r' = r ∧ i_Rel (k + 3) u v) v v1) u v1 := by
  have I2 := I
  obtain ⟨tc, ob, ps, su, ep, sd, bc, mA, mB, oX, oY, gY, wD, pC, sC, tk, tv, cb, sk, sv, vk, vv, bp, br, bh, bn, bs, bl, px, py, pm, cr, sn, sx, sy, sm, sp, dg⟩ := u
  obtain ⟨yt, yo, yh, yi, ya, ye, yp, ys, yc, nw, gn, bg, wd, tk', tv', dg', sk', sv', vk', vv', hw, fr, og, lf, st, la, fm, fc, gr, wi, mn, qx, qy, ss, cl, cp, nx, ny⟩ := v
  obtain ⟨⟨t, o, h, ⟨rfl, rfl, rfl, h24⟩, ⟨rfl, rfl, rfl, rfl⟩, ⟨rfl, rfl, rfl, rfl, rfl, rfl, rfl⟩, hT, _, hC⟩, _⟩ := I
  exact ⟨577, x_count_l 576 0 0 rfl ⟨577, y_count_l 576 0 0 rfl ⟨rfl, I2⟩⟩⟩
end
section
theorem zb_one (i : Nat) : bt 1 i = decide (i = 0) := by
  rcases Nat.lt_or_ge i 32 with h | h
  · exact (by decide +kernel : ∀ i, i < 32 → bt 1 i = decide (i = 0)) i h
  · rw [b_big h, decide_eq_false (by omega)]
theorem zb_sh {n i : Nat} (hn : n < 32) (hi : i < 32) : bt ((1 : Int32) <<< (nI n &&& 31)) i = decide (i = n) := by
  rw [b_shl n hn 1 hi, zb_one]
  by_cases h : i = n
  · subst h; simp
  · rw [decide_eq_false h]
    by_cases h2 : n ≤ i
    · rw [decide_eq_false (by omega : ¬ i - n = 0)]; simp
    · rw [decide_eq_false h2]; simp
theorem zb_add {x : Int32} {n : Nat} (hn : n < 32) (h : ∀ i, n ≤ i → bt x i = false) : x + ((1 : Int32) <<< (nI n &&& 31)) = x ||| ((1 : Int32) <<< (nI n &&& 31)) := by
  apply Int32.toBitVec_inj.mp
  rw [Int32.toBitVec_add, Int32.toBitVec_or]
  apply BitVec.add_eq_or_of_and_eq_zero
  apply BitVec.eq_of_getLsbD_eq
  intro i hi
  rw [BitVec.getLsbD_and, BitVec.getLsbD_zero]
  show (bt x i && bt ((1 : Int32) <<< (nI n &&& 31)) i) = false
  rw [zb_sh hn hi]
  by_cases e : i = n
  · subst e; rw [h i (Nat.le_refl _)]; rfl
  · rw [decide_eq_false e, Bool.and_false]
section
variable {tc ob ps su ep sd bc mA mB oX oY gY wD pC sC yt yo yh yi ya ye yp ys yc nw gn bg wd : Int32} {tk tv cb sk sv vk vv bp br bh bn bs bl px py pm cr sn sx sy sm sp dg hw fr og lf st la fm fc gr wi mn qx qy ss cl cp nx ny : Nat → Int32}
theorem y_clip_l {post : Int32 → Prop} {j : Nat} {r : Int32} (hj : j < 24) (hC : ∀ i, i < 24 → bt r i = decide (cp (24 * j + i) ≠ 0)) (hr : ∀ i, 24 ≤ i → bt r i = false) (k : post r) :
    ∀ (d i : Nat) (x : Int32), i + d = 24 → (∀ b, bt x b = (decide (b < i) && bt r b)) → wY_clip_4 post (nI j) yt yo yh yi ya ye yp ys yc nw gn bg wd tk tv dg sk sv vk vv hw fr og lf st la fm fc gr wi mn qx qy ss cl cp nx ny (d + 1) x (nI i) := by
  intro d
  induction d with
  | zero =>
    intro i x hi hx
    have e : x = r := b_ext (fun b hb => by
      rw [hx b]
      by_cases h : b < i
      · rw [decide_eq_true h, Bool.true_and]
      · rw [hr b (by omega), Bool.and_false])
    subst e
    exact ql_t 24 i (by omega) k
  | succ d ih =>
    intro i x hi hx
    refine ql_f 24 i (by omega) (qs_f j 0 (by omega) (ql_f 24 j hj ?_))
    rw [zd_in (i := i) (by omega) hj, zc_i (n := 24 * j + i) (by omega)]
    refine ⟨vp_in_nI (by omega) (by omega), br_c (fun e => nm_r (nI_1 i) (ih (i + 1) _ (by omega) (fun b => ?_))) (fun e => nm_e (nm_r (nI_1 i) (ih (i + 1) _ (by omega) (fun b => ?_))))⟩
    · rw [hx b]
      by_cases hb : b = i
      · subst hb
        rw [hC b (by omega)]
        simp [e]
      · by_cases h2 : b < i
        · rw [decide_eq_true h2, decide_eq_true (by omega : b < i + 1)]
        · rw [decide_eq_false h2, decide_eq_false (by omega : ¬ b < i + 1)]
    · rw [zb_add (by omega) (fun q hq => by rw [hx q, decide_eq_false (by omega), Bool.false_and]), b_or, hx b]
      rcases Nat.lt_or_ge b 32 with h32 | h32
      · rw [zb_sh (by omega) h32]
        by_cases hb : b = i
        · subst hb
          rw [hC b (by omega), decide_eq_true e, decide_eq_true (by omega : b < b + 1)]
          simp
        · by_cases h2 : b < i
          · rw [decide_eq_true h2, decide_eq_true (by omega : b < i + 1), decide_eq_false hb]; simp
          · rw [decide_eq_false h2, decide_eq_false (by omega : ¬ b < i + 1), decide_eq_false hb]; simp
      · rw [b_big h32, b_big h32]; simp
end
theorem i_vc_clip {k : Nat} {u : SX} {v : SY} (I : i_Rel k u v) (hk : k + 3 ≤ 1536) (v1 : Int32) : wpX_clip (fun r => wpY_clip (fun r' => r' = r ∧ i_Rel (k + 3) u v) v v1) u v1 := by
  have I2 := I
  obtain ⟨tc, ob, ps, su, ep, sd, bc, mA, mB, oX, oY, gY, wD, pC, sC, tk, tv, cb, sk, sv, vk, vv, bp, br, bh, bn, bs, bl, px, py, pm, cr, sn, sx, sy, sm, sp, dg⟩ := u
  obtain ⟨yt, yo, yh, yi, ya, ye, yp, ys, yc, nw, gn, bg, wd, tk', tv', dg', sk', sv', vk', vv', hw, fr, og, lf, st, la, fm, fc, gr, wi, mn, qx, qy, ss, cl, cp, nx, ny⟩ := v
  obtain ⟨⟨t, o, h, _, _, _, hT, _, hC⟩, _⟩ := I
  rcases pk_ix v1 (n := 24) (by omega) with h1 | h1 | ⟨j, hj, rfl⟩
  · exact br_t h1 ⟨1, ql_f 24 0 (by omega) (br_t h1 ⟨rfl, I2⟩)⟩
  · have h0 : ¬ v1 < 0 := Int32.not_lt.mpr (Int32.le_trans (nI_pos' (by omega)) h1)
    exact br_f h0 (br_t h1 ⟨1, ql_f 24 0 (by omega) (br_f h0 (br_t h1 ⟨rfl, I2⟩))⟩)
  · refine qs_f j 0 (by omega) (ql_f 24 j hj ⟨vp_in_nI (by omega) (by omega), ?_⟩)
    rw [zc_i (by omega)]
    exact ⟨25, y_clip_l hj (fun i hi => ((hC j hj).1 i hi).2) (hC j hj).2 ⟨rfl, I2⟩ 24 0 0 rfl (fun b => by rw [b_0, decide_eq_false (by omega), Bool.false_and])⟩
theorem zft_le (ss : Nat → Int32) (k : Nat) : Zft ss k ≤ k := by
  induction k with
  | zero => exact Nat.le_refl _
  | succ k ih =>
    unfold Zft
    split <;> omega
theorem zft_0 {ss : Nat → Int32} {k : Nat} (h : ss (k + 1) = 0) : Zft ss (k + 1) = Zft ss k := by
  show (if ss (k + 1) = 0 then Zft ss k else k + 1) = _
  rw [if_pos h]
theorem zft_s {ss : Nat → Int32} {k : Nat} (h : ss k ≠ 0) : Zft ss k = k := by
  cases k with
  | zero => rfl
  | succ k =>
    show (if ss (k + 1) = 0 then Zft ss k else k + 1) = _
    rw [if_neg h]
theorem zft_ne {ss : Nat → Int32} (h : ss 0 ≠ 0) (k : Nat) : ss (Zft ss k) ≠ 0 := by
  induction k with
  | zero => exact h
  | succ k ih =>
    by_cases e : ss (k + 1) = 0
    · rw [zft_0 e]; exact ih
    · rw [zft_s e]; exact e
section
variable {tc ob ps su ep sd bc mA mB oX oY gY wD pC sC yt yo yh yi ya ye yp ys yc nw gn bg wd : Int32} {tk tv cb sk sv vk vv bp br bh bn bs bl px py pm cr sn sx sy sm sp dg hw fr og lf st la fm fc gr wi mn qx qy ss cl cp nx ny : Nat → Int32}
theorem y_corner_l {post : Int32 → Prop} {x1 : Int32} (h0 : ss 0 ≠ 0) (j : Nat) (hj : j < 240) (k : ∀ m, m = Zft ss j → vp_in x1 240 ∧ (((ss x1.toNatClampNeg) = 0 → wY_corner_83 post (nI m) 0 yt yo yh yi ya ye yp ys yc nw gn bg wd tk tv dg sk sv vk vv hw fr og lf st la fm fc gr wi mn qx qy ss cl cp nx ny) ∧ (¬ (ss x1.toNatClampNeg) = 0 → wY_corner_83 post (nI m) 1 yt yo yh yi ya ye yp ys yc nw gn bg wd tk tv dg sk sv vk vv hw fr og lf st la fm fc gr wi mn qx qy ss cl cp nx ny))) : wY_corner_54 post x1 yt yo yh yi ya ye yp ys yc nw gn bg wd tk tv dg sk sv vk vv hw fr og lf st la fm fc gr wi mn qx qy ss cl cp nx ny (j + 1) (nI j) := by
  induction j with
  | zero =>
    refine ⟨vp_in_nI (by omega) (by omega), ?_⟩
    rw [zc_i (by omega)]
    exact br_f h0 (k 0 rfl)
  | succ j ih =>
    refine ⟨vp_in_nI (by omega) (by omega), ?_⟩
    rw [zc_i (n := j + 1) (by omega)]
    refine br_c (fun e => nm_r (pk_m1 j) (ih (by omega) (fun m hm => k m (by rw [zft_0 e]; exact hm)))) (fun e => ?_)
    exact k (j + 1) (zft_s e).symm
end
theorem i_vc_corner {k : Nat} {u : SX} {v : SY} (I : i_Rel k u v) (hk : k + 3 ≤ 1536) (v1 : Int32) (v2 : Int32) : wpX_corner (fun r => wpY_corner (fun r' => r' = r ∧ i_Rel (k + 3) u v) v v1 v2) u v1 v2 := by
  have I2 := I
  obtain ⟨tc, ob, ps, su, ep, sd, bc, mA, mB, oX, oY, gY, wD, pC, sC, tk, tv, cb, sk, sv, vk, vv, bp, br, bh, bn, bs, bl, px, py, pm, cr, sn, sx, sy, sm, sp, dg⟩ := u
  obtain ⟨yt, yo, yh, yi, ya, ye, yp, ys, yc, nw, gn, bg, wd, tk', tv', dg', sk', sv', vk', vv', hw, fr, og, lf, st, la, fm, fc, gr, wi, mn, qx, qy, ss, cl, cp, nx, ny⟩ := v
  obtain ⟨⟨t, o, h, _, _, _, hT, ⟨pc, rfl, hm, hP⟩, hC⟩, _⟩ := I
  have hpc := hP.1
  rcases pk_ix v1 (n := pc) (by omega) with h1 | h1 | ⟨j, hj, rfl⟩
  · exact br_t h1 (br_t h1 ⟨rfl, I2⟩)
  · have h0 : ¬ v1 < 0 := Int32.not_lt.mpr (Int32.le_trans (nI_pos' (by omega)) h1)
    exact br_f h0 (br_f (Int32.not_lt.mpr h1) (br_f h0 (br_t (by rw [hm]; exact h1) ⟨rfl, I2⟩)))
  · obtain ⟨p1, p2, p3, p4, p5, _⟩ := hP.2.2 j hj
    have hb : ¬ mn 0 ≤ nI j := by rw [hm]; exact nI_ge hj (by omega)
    have e : (nI j).toNatClampNeg = j := zc_i (by omega)
    have hi8 : vp_in (nI j) 48 := vp_in_nI (by omega) (by omega)
    have hi2 : vp_in (nI j) 240 := vp_in_nI (by omega) (by omega)
    refine qs_f j 0 (by omega) (qs_t j pc hj ?_)
    rcases pk_ix v2 (n := 3) (by omega) with g1 | g1 | ⟨w, hw, rfl⟩
    · exact br_t g1 (qs_f j 0 (by omega) (br_f hb (br_t g1 ⟨rfl, I2⟩)))
    · have g0 : ¬ v2 < 0 := Int32.not_lt.mpr (Int32.le_trans (nI_pos' (by omega)) g1)
      have g2 : (2 : Int32) < v2 := Int32.lt_of_lt_of_le (by decide : (2 : Int32) < nI 3) g1
      exact br_f g0 (br_t g2 (qs_f j 0 (by omega) (br_f hb (br_f g0 (br_f (Int32.not_le.mpr g2) ⟨rfl, I2⟩)))))
    · have hw3 : w = 0 ∨ w = 1 ∨ w = 2 := by omega
      rcases hw3 with rfl | rfl | rfl
      · refine br_f (by decide) (br_f (by decide) (br_t (by decide) ⟨hi8, ?_⟩))
        rw [e]
        refine qs_f j 0 (by omega) (br_f hb (br_f (by decide) (br_t (by decide) (br_f (by decide) (br_t (by decide) ⟨hi2, ?_⟩)))))
        rw [e]
        exact ⟨p1, I2⟩
      · refine br_f (by decide) (br_f (by decide) (br_f (by decide) (br_t (by decide) ⟨hi8, ?_⟩)))
        rw [e]
        refine qs_f j 0 (by omega) (br_f hb (br_f (by decide) (br_t (by decide) (br_f (by decide) (br_f (by decide) ⟨hi2, ?_⟩)))))
        rw [e]
        exact ⟨p2, I2⟩
      · refine br_f (by decide) (br_f (by decide) (br_f (by decide) (br_f (by decide) (br_t (by decide) ⟨hi8, ?_⟩))))
        rw [e]
        refine qs_f j 0 (by omega) (br_f hb (br_f (by decide) (br_t (by decide) (br_t (by decide) ⟨j + 1, y_corner_l (hP.2.1 (by omega)) j (by omega) (fun m hm' => ⟨hi2, ?_⟩)⟩))))
        have hml : m ≤ j := by rw [hm']; exact zft_le ss j
        have em : (nI m).toNatClampNeg = m := zc_i (by omega)
        have hmi : vp_in (nI m) 240 := vp_in_nI (by omega) (by omega)
        rw [e]
        rw [← hm'] at p5
        refine br_c (fun s0 => ⟨hmi, ?_⟩) (fun s0 => ⟨hmi, ?_⟩)
        · rw [em]
          refine br_c (fun c0 => ⟨?_, I2⟩) (fun c0 => ⟨?_, I2⟩)
          · rw [p5]; unfold Zmk; rw [if_pos s0, if_pos c0]
          · rw [p5]; unfold Zmk; rw [if_pos s0, if_neg c0]
        · rw [em]
          refine br_c (fun c0 => ⟨?_, I2⟩) (fun c0 => ⟨?_, I2⟩)
          · rw [p5]; unfold Zmk; rw [if_neg s0, if_pos c0]
          · rw [p5]; unfold Zmk; rw [if_neg s0, if_neg c0]
theorem i_vc_drop {k : Nat} {u : SX} {v : SY} (I : i_Rel k u v) (hk : k + 3 ≤ 1536) : wpX_drop (fun r u' => wpY_drop (fun r' v' => r' = r ∧ i_Rel (k + 3) u' v') v) u := by
  obtain ⟨tc, ob, ps, su, ep, sd, bc, mA, mB, oX, oY, gY, wD, pC, sC, tk, tv, cb, sk, sv, vk, vv, bp, br, bh, bn, bs, bl, px, py, pm, cr, sn, sx, sy, sm, sp, dg⟩ := u
  obtain ⟨yt, yo, yh, yi, ya, ye, yp, ys, yc, nw, gn, bg, wd, tk', tv', dg', sk', sv', vk', vv', hw, fr, og, lf, st, la, fm, fc, gr, wi, mn, qx, qy, ss, cl, cp, nx, ny⟩ := v
  obtain ⟨⟨t, o, h, ⟨rfl, rfl, rfl, h24⟩, ⟨rfl, rfl, rfl, rfl⟩, ⟨rfl, rfl, rfl, rfl, rfl, rfl, rfl⟩, hT, hP, hC⟩, hep⟩ := I
  exact ⟨rfl, ⟨0, 0, h, ⟨rfl, rfl, rfl, h24⟩, ⟨rfl, rfl, rfl, rfl⟩, ⟨rfl, rfl, rfl, rfl, rfl, rfl, rfl⟩, tk_0 _ _ _, hP, hC⟩, hep⟩
section
variable {tc ob ps su ep sd bc mA mB oX oY gY wD pC sC yt yo yh yi ya ye yp ys yc nw gn bg wd : Int32} {tk tv cb sk sv vk vv bp br bh bn bs bl px py pm cr sn sx sy sm sp dg hw fr og lf st la fm fc gr wi mn qx qy ss cl cp nx ny : Nat → Int32}
theorem x_cLB_l {post : SX → Prop} {p : Nat} (h2 : tk p = 2) (hc : cb p < 0) (hp : p < 100) (k : post (tc, ob - 1, ps, su, ep, sd, bc, mA, mB, oX, oY, gY, wD, pC, sC, tk, tv, upd cb p tc, sk, sv, vk, vv, bp, br, bh, bn, bs, bl, px, py, pm, cr, sn, sx, sy, sm, sp, dg)) :
    ∀ d, p + d < 100 → (∀ q, p < q → q ≤ p + d → tk q = 2 → ¬ cb q < 0) → wX_closeLatestBrace_7 post tc ob ps su ep sd bc mA mB oX oY gY wD pC sC tk tv cb sk sv vk vv bp br bh bn bs bl px py pm cr sn sx sy sm sp dg (d + 1) (nI (p + d)) := by
  intro d
  induction d with
  | zero =>
    intro _ _
    refine qs_f p 0 (by omega) ⟨vp_in_nI (by omega) (by omega), ?_⟩
    show (((tk (nI p).toNatClampNeg) = 2 → _) ∧ _)
    have e : (nI p).toNatClampNeg = p := zc_i (by omega)
    refine br_t (by rw [e]; exact h2) ⟨vp_in_nI (by omega) (by omega), br_f (by rw [show (nI (p + 0)).toNatClampNeg = p from e]; exact Int32.not_le.mpr hc) ⟨vp_in_nI (by omega) (by omega), nm_r (congrArg (fun q => upd cb q tc) e) (nm_e k)⟩⟩
  | succ d ih =>
    intro hd hq
    have e : (nI (p + (d + 1))).toNatClampNeg = p + (d + 1) := zc_i (by omega)
    refine qs_f (p + (d + 1)) 0 (by omega) ⟨vp_in_nI (by omega) (by omega), br_c (fun hk => ⟨vp_in_nI (by omega) (by omega), br_t ?_ (nm_r (pk_m1 (p + d)) (ih (by omega) (fun q h1 h3 => hq q h1 (by omega))))⟩) (fun _ => nm_r (pk_m1 (p + d)) (ih (by omega) (fun q h1 h3 => hq q h1 (by omega))))⟩
    rw [e] at hk ⊢
    exact Int32.not_lt.mp (hq _ (by omega) (by omega) hk)
theorem x_tokA {post : Int32 → SX → Prop} {kd v : Int32} {t : Nat} (ht : t < 100) (h2 : kd ≠ 2) (h3 : kd ≠ 3) (k : post 1 (nI (t + 1), ob, ps, su, ep, sd, bc, mA, mB, oX, oY, gY, wD, pC, sC, upd tk t kd, upd tv t v, upd cb t (-1), sk, sv, vk, vv, bp, br, bh, bn, bs, bl, px, py, pm, cr, sn, sx, sy, sm, sp, dg)) : wX_token_33 post kd v (nI t) ob ps su ep sd bc mA mB oX oY gY wD pC sC tk tv cb sk sv vk vv bp br bh bn bs bl px py pm cr sn sx sy sm sp dg := by
  have hi : vp_in (nI t) 100 := vp_in_nI ht (by omega)
  have e : (nI t).toNatClampNeg = t := zc_i (by omega)
  exact ⟨hi, nm_r (congrArg (fun q => upd tk q kd) e) ⟨hi, nm_r (congrArg (fun q => upd tv q v) e) ⟨hi, nm_r (congrArg (fun q => upd cb q (-1)) e) (br_f h2 (br_f h3 (nm_r (nI_1 t) k)))⟩⟩⟩
theorem x_tokB {post : Int32 → SX → Prop} {v : Int32} {t o : Nat} (ht : t < 100) (k : post 1 (nI (t + 1), nI (o + 1), ps, su, ep, sd, bc, mA, mB, oX, oY, gY, wD, pC, sC, upd tk t 2, upd tv t v, upd cb t (-1), sk, sv, vk, vv, bp, br, bh, bn, bs, bl, px, py, pm, cr, sn, sx, sy, sm, sp, dg)) : wX_token_33 post 2 v (nI t) (nI o) ps su ep sd bc mA mB oX oY gY wD pC sC tk tv cb sk sv vk vv bp br bh bn bs bl px py pm cr sn sx sy sm sp dg := by
  have hi : vp_in (nI t) 100 := vp_in_nI ht (by omega)
  have e : (nI t).toNatClampNeg = t := zc_i (by omega)
  exact ⟨hi, nm_r (congrArg (fun q => upd tk q 2) e) ⟨hi, nm_r (congrArg (fun q => upd tv q v) e) ⟨hi, nm_r (congrArg (fun q => upd cb q (-1)) e) (br_t rfl (nm_r (nI_1 o) (br_f (by decide) (nm_r (nI_1 t) k))))⟩⟩⟩
theorem x_tokC {post : Int32 → SX → Prop} {v : Int32} {t o p : Nat} (ht : t < 100) (hp : p < t) (h2 : tk p = 2) (hc : cb p < 0) (hq : ∀ q, p < q → q < t → tk q = 2 → ¬ cb q < 0)
    (k : post 1 (nI (t + 1), nI o, ps, su, ep, sd, bc, mA, mB, oX, oY, gY, wD, pC, sC, upd tk t 3, upd tv t v, upd (upd cb t (-1)) p (nI t), sk, sv, vk, vv, bp, br, bh, bn, bs, bl, px, py, pm, cr, sn, sx, sy, sm, sp, dg)) : wX_token_33 post 3 v (nI t) (nI (o + 1)) ps su ep sd bc mA mB oX oY gY wD pC sC tk tv cb sk sv vk vv bp br bh bn bs bl px py pm cr sn sx sy sm sp dg := by
  have hi : vp_in (nI t) 100 := vp_in_nI ht (by omega)
  have e : (nI t).toNatClampNeg = t := zc_i (by omega)
  refine ⟨hi, nm_r (congrArg (fun q => upd tk q 3) e) ⟨hi, nm_r (congrArg (fun q => upd tv q v) e) ⟨hi, nm_r (congrArg (fun q => upd cb q (-1)) e) (br_f (by decide) (br_t rfl ?_))⟩⟩⟩
  obtain ⟨d, rfl⟩ : ∃ d, t = p + d + 1 := ⟨t - p - 1, by omega⟩
  refine nm_r (nI_pred (p + d)) ⟨d + 1, x_cLB_l (p := p) (by rw [pk_un (by omega)]; exact h2) (by rw [pk_un (by omega)]; exact hc) (by omega) ?_ d (by omega) (fun q h1 h3 => ?_)⟩
  · rw [nI_pred]
    exact nm_r (nI_1 (p + d + 1)) k
  · rw [pk_un (by omega), pk_un (by omega)]
    exact hq q h1 (by omega)
theorem y_tokA {post : Int32 → SY → Prop} {kd v : Int32} {t : Nat} (ht : t < 100) (h2 : kd ≠ 2) (h3 : kd ≠ 3) (k : post 1 (nI (t + 1), yo, yh, yi, ya, ye, yp, ys, yc, nw, gn, bg, wd, upd tk t kd, upd tv t v, dg, sk, sv, vk, vv, hw, fr, og, lf, st, la, fm, fc, gr, wi, mn, qx, qy, ss, cl, cp, nx, ny)) : wY_token_64 post kd v (nI t) yo yh yi ya ye yp ys yc nw gn bg wd tk tv dg sk sv vk vv hw fr og lf st la fm fc gr wi mn qx qy ss cl cp nx ny := by
  have hi : vp_in (nI t) 100 := vp_in_nI ht (by omega)
  have e : (nI t).toNatClampNeg = t := zc_i (by omega)
  exact ⟨hi, nm_r (congrArg (fun q => upd tk q kd) e) ⟨hi, nm_r (congrArg (fun q => upd tv q v) e) (nm_r (nI_1 t) (br_f h2 (br_f h3 (nm_r (Int32.add_zero yo) k))))⟩⟩
theorem y_tokB {post : Int32 → SY → Prop} {v : Int32} {t o : Nat} (ht : t < 100) (k : post 1 (nI (t + 1), nI (o + 1), yh, yi, ya, ye, yp, ys, yc, nw, gn, bg, wd, upd tk t 2, upd tv t v, dg, sk, sv, vk, vv, hw, fr, og, lf, st, la, fm, fc, gr, wi, mn, qx, qy, ss, cl, cp, nx, ny)) : wY_token_64 post 2 v (nI t) (nI o) yh yi ya ye yp ys yc nw gn bg wd tk tv dg sk sv vk vv hw fr og lf st la fm fc gr wi mn qx qy ss cl cp nx ny := by
  have hi : vp_in (nI t) 100 := vp_in_nI ht (by omega)
  have e : (nI t).toNatClampNeg = t := zc_i (by omega)
  exact ⟨hi, nm_r (congrArg (fun q => upd tk q 2) e) ⟨hi, nm_r (congrArg (fun q => upd tv q v) e) (nm_r (nI_1 t) (br_t rfl (nm_r (nI_1 o) k)))⟩⟩
theorem y_tokC {post : Int32 → SY → Prop} {v : Int32} {t o : Nat} (ht : t < 100) (k : post 1 (nI (t + 1), nI o, yh, yi, ya, ye, yp, ys, yc, nw, gn, bg, wd, upd tk t 3, upd tv t v, dg, sk, sv, vk, vv, hw, fr, og, lf, st, la, fm, fc, gr, wi, mn, qx, qy, ss, cl, cp, nx, ny)) : wY_token_64 post 3 v (nI t) (nI (o + 1)) yh yi ya ye yp ys yc nw gn bg wd tk tv dg sk sv vk vv hw fr og lf st la fm fc gr wi mn qx qy ss cl cp nx ny := by
  have hi : vp_in (nI t) 100 := vp_in_nI ht (by omega)
  have e : (nI t).toNatClampNeg = t := zc_i (by omega)
  exact ⟨hi, nm_r (congrArg (fun q => upd tk q 3) e) ⟨hi, nm_r (congrArg (fun q => upd tv q v) e) (nm_r (nI_1 t) (br_f (by decide) (br_t rfl (nm_r (pk_m1 o) k))))⟩⟩
end
theorem i_vc_token {k : Nat} {u : SX} {v : SY} (I : i_Rel k u v) (hk : k + 3 ≤ 1536) (v1 : Int32) (v2 : Int32) : wpX_token (fun r u' => wpY_token (fun r' v' => r' = r ∧ i_Rel (k + 3) u' v') v v1 v2) u v1 v2 := by
  have I2 := I
  obtain ⟨tc, ob, ps, su, ep, sd, bc, mA, mB, oX, oY, gY, wD, pC, sC, tk, tv, cb, sk, sv, vk, vv, bp, br, bh, bn, bs, bl, px, py, pm, cr, sn, sx, sy, sm, sp, dg⟩ := u
  obtain ⟨yt, yo, yh, yi, ya, ye, yp, ys, yc, nw, gn, bg, wd, tk', tv', dg', sk', sv', vk', vv', hw, fr, og, lf, st, la, fm, fc, gr, wi, mn, qx, qy, ss, cl, cp, nx, ny⟩ := v
  obtain ⟨⟨t, o, h, ⟨rfl, rfl, rfl, h24⟩, ⟨rfl, rfl, rfl, rfl⟩, ⟨rfl, rfl, rfl, rfl, rfl, rfl, rfl⟩, hT, hP, hC⟩, hep⟩ := I
  have ht := hT.1
  have ho := tk_ob hT
  have ok : ∀ (t' o' : Nat) (tk2 tv2 cb2 : Nat → Int32), ZTK t' o' tk2 tv2 cb2 → ZI (nI t', nI o', ps, ys, ep, nI h, bc, mA, mB, oX, oY, gY, wD, pC, sC, tk2, tv2, cb2, sk', sv', vk', vv', bp, br, bh, bn, bs, bl, px, py, pm, cr, sn, sx, sy, sm, sp, dg') (nI t', nI o', nI h, yi, ya, ye, yp, ys, yc, nw, gn, bg, wd, tk2, tv2, dg', sk', sv', vk', vv', hw, fr, og, lf, st, la, fm, fc, gr, wi, mn, qx, qy, ss, cl, cp, nx, ny) :=
    fun t' o' tk2 tv2 cb2 hT' => ⟨⟨t', o', h, ⟨rfl, rfl, rfl, h24⟩, ⟨rfl, rfl, rfl, rfl⟩, ⟨rfl, rfl, rfl, rfl, rfl, rfl, rfl⟩, hT', hP, hC⟩, hep⟩
  by_cases h100 : t = 100
  · subst h100
    refine ql_t 100 100 (by omega) (br_c (fun _ => ⟨rfl, I2⟩) (fun _ => br_c (fun _ => ⟨rfl, I2⟩) (fun _ => br_t rfl ⟨rfl, I2⟩)))
  · have hy : ¬ nI t = 100 := fun z => h100 ((nI_eq (b := 100) (by omega) (by omega)).mp z)
    refine ql_f 100 t (by omega) ?_
    rcases pk_ix v1 (n := 6) (by omega) with h1 | h1 | ⟨j, hj, rfl⟩
    · exact br_t h1 (br_t rfl (br_t h1 ⟨rfl, I2⟩))
    · have h0 : ¬ v1 < 0 := Int32.not_lt.mpr (Int32.le_trans (nI_pos' (by omega)) h1)
      have h5 : (5 : Int32) < v1 := Int32.lt_of_lt_of_le (by decide : (5 : Int32) < nI 6) h1
      exact br_f h0 (br_t h5 (br_t rfl (br_f h0 (br_t h5 ⟨rfl, I2⟩))))
    · have hj6 : j = 0 ∨ j = 1 ∨ j = 2 ∨ j = 3 ∨ j = 4 ∨ j = 5 := by omega
      have ny : ¬ (1 : Int32) = 0 := by decide
      rcases hj6 with rfl | rfl | rfl | rfl | rfl | rfl
      · refine br_f (by decide) (br_f (by decide) (br_t (by decide) (br_f ny (br_f (by decide) (x_tokA (by omega) (by decide) (by decide) ?_)))))
        refine br_f (by decide) (br_f (by decide) (br_f hy (br_f (by decide) (br_f (by decide) (br_t (by decide) (y_tokA (by omega) (by decide) (by decide) ⟨rfl, ?_⟩))))))
        exact ok _ _ _ _ _ (tk_add hT (by omega) (Or.inl rfl) (by decide) (by decide))
      · refine br_f (by decide) (br_f (by decide) (br_f (by decide) (br_t (by decide) ?_)))
        rcases pk_ix v2 (n := 45) (by omega) with g1 | g1 | ⟨w, hw, rfl⟩
        · exact br_t g1 (br_t rfl (br_f (by decide) (br_f (by decide) (br_f hy (br_f (by decide) (br_t (by decide) (br_t g1 ⟨rfl, I2⟩)))))))
        · have g0 : ¬ v2 < 0 := Int32.not_lt.mpr (Int32.le_trans (nI_pos' (by omega)) g1)
          have g5 : (44 : Int32) < v2 := Int32.lt_of_lt_of_le (by decide : (44 : Int32) < nI 45) g1
          exact br_f g0 (br_t g5 (br_t rfl (br_f (by decide) (br_f (by decide) (br_f hy (br_f (by decide) (br_t (by decide) (br_f g0 (br_t g5 ⟨rfl, I2⟩)))))))))
        · have g0 : ¬ nI w < 0 := nI_pos (by omega)
          have g5 : ¬ (44 : Int32) < nI w := nI_nlt (b := w) (a := 44) (by omega) (by omega)
          refine br_f g0 (br_f g5 (br_f ny (br_f (by decide) (x_tokA (by omega) (by decide) (by decide) ?_))))
          refine br_f (by decide) (br_f (by decide) (br_f hy (br_f (by decide) (br_t (by decide) (br_f g0 (br_f g5 (br_t (by decide) (y_tokA (by omega) (by decide) (by decide) ⟨rfl, ?_⟩))))))))
          exact ok _ _ _ _ _ (tk_add hT (by omega) (Or.inr (Or.inl ⟨rfl, w, hw, rfl⟩)) (by decide) (by decide))
      · refine br_f (by decide) (br_f (by decide) (br_f (by decide) (br_f (by decide) (br_t (by decide) (br_f ny (br_f (by decide) (x_tokB (by omega) ?_)))))))
        refine br_f (by decide) (br_f (by decide) (br_f hy (br_f (by decide) (br_f (by decide) (br_t (by decide) (y_tokB (by omega) ⟨rfl, ?_⟩))))))
        exact ok _ _ _ _ _ (tk_beg hT (by omega))
      · refine br_f (by decide) (br_f (by decide) (br_f (by decide) (br_f (by decide) (br_f (by decide) (br_t (by decide) (br_f ny (br_t (by decide) ?_)))))))
        by_cases ho0 : o = 0
        · subst ho0
          exact br_t rfl (br_f (by decide) (br_f (by decide) (br_f hy (br_t (by decide) (br_t rfl ⟨rfl, I2⟩)))))
        · obtain ⟨o', rfl⟩ : ∃ o', o = o' + 1 := ⟨o - 1, by omega⟩
          have hne : ¬ nI (o' + 1) = 0 := nI_ne0 (by omega) (by omega)
          obtain ⟨p, hp, hp2, hp3, hp4, hT'⟩ := tk_close (v := v2) hT (by omega)
          refine br_f hne (x_tokC (by omega) hp hp2 hp3 hp4 ?_)
          refine br_f (by decide) (br_f (by decide) (br_f hy (br_t (by decide) (br_f hne (br_f (by decide) (br_t (by decide) (y_tokC (by omega) ⟨rfl, ?_⟩)))))))
          exact ok _ _ _ _ _ hT'
      · refine br_f (by decide) (br_f (by decide) (br_f (by decide) (br_f (by decide) (br_f (by decide) (br_f (by decide) (br_t (by decide) ?_))))))
        rcases pk_ix v2 (n := 8) (by omega) with g1 | g1 | ⟨w, hw, rfl⟩
        · exact br_t g1 (br_t rfl (br_f (by decide) (br_f (by decide) (br_f hy (br_f (by decide) (br_f (by decide) (br_f (by decide) (br_t g1 ⟨rfl, I2⟩))))))))
        · have g0 : ¬ v2 < 0 := Int32.not_lt.mpr (Int32.le_trans (nI_pos' (by omega)) g1)
          have g5 : ¬ v2 ≤ (7 : Int32) := Int32.not_le.mpr (Int32.lt_of_lt_of_le (by decide : (7 : Int32) < nI 8) g1)
          exact br_f g0 (br_t g1 (br_t rfl (br_f (by decide) (br_f (by decide) (br_f hy (br_f (by decide) (br_f (by decide) (br_f (by decide) (br_f g0 (br_f g5 ⟨rfl, I2⟩))))))))))
        · have g0 : ¬ nI w < 0 := nI_pos (by omega)
          have g8 : ¬ (8 : Int32) ≤ nI w := nI_ge (b := 8) hw (by decide)
          refine br_f g0 (br_f g8 (br_f ny (br_f (by decide) (x_tokA (by omega) (by decide) (by decide) ?_))))
          refine br_f (by decide) (br_f (by decide) (br_f hy (br_f (by decide) (br_f (by decide) (br_f (by decide) (br_f g0 (ql_t w 7 (by omega) (y_tokA (by omega) (by decide) (by decide) ⟨rfl, ?_⟩))))))))
          exact ok _ _ _ _ _ (tk_add hT (by omega) (Or.inr (Or.inr (Or.inr (Or.inr (Or.inl ⟨rfl, w, hw, rfl⟩))))) (by decide) (by decide))
      · refine br_f (by decide) (br_f (by decide) (br_f (by decide) (br_f (by decide) (br_f (by decide) (br_f (by decide) (br_f (by decide) (br_t (by decide) ?_)))))))
        rcases pk_ix v2 (n := 8) (by omega) with g1 | g1 | ⟨w, hw, rfl⟩
        · exact br_t g1 (br_t rfl (br_f (by decide) (br_f (by decide) (br_f hy (br_f (by decide) (br_f (by decide) (br_f (by decide) (br_t g1 ⟨rfl, I2⟩))))))))
        · have g0 : ¬ v2 < 0 := Int32.not_lt.mpr (Int32.le_trans (nI_pos' (by omega)) g1)
          have g5 : ¬ v2 ≤ (7 : Int32) := Int32.not_le.mpr (Int32.lt_of_lt_of_le (by decide : (7 : Int32) < nI 8) g1)
          exact br_f g0 (br_t g1 (br_t rfl (br_f (by decide) (br_f (by decide) (br_f hy (br_f (by decide) (br_f (by decide) (br_f (by decide) (br_f g0 (br_f g5 ⟨rfl, I2⟩))))))))))
        · have g0 : ¬ nI w < 0 := nI_pos (by omega)
          have g8 : ¬ (8 : Int32) ≤ nI w := nI_ge (b := 8) hw (by decide)
          refine br_f g0 (br_f g8 (br_f ny (br_f (by decide) (x_tokA (by omega) (by decide) (by decide) ?_))))
          refine br_f (by decide) (br_f (by decide) (br_f hy (br_f (by decide) (br_f (by decide) (br_f (by decide) (br_f g0 (ql_t w 7 (by omega) (y_tokA (by omega) (by decide) (by decide) ⟨rfl, ?_⟩))))))))
          exact ok _ _ _ _ _ (tk_add hT (by omega) (Or.inr (Or.inr (Or.inr (Or.inr (Or.inr ⟨rfl, w, hw, rfl⟩))))) (by decide) (by decide))
end
section
section
variable {tc ob ps su ep sd bc mA mB oX oY gY wD pC sC yt yo yh yi ya ye yp ys yc nw gn bg wd : Int32} {tk tv cb sk sv vk vv bp br bh bn bs bl px py pm cr sn sx sy sm sp dg hw fr og lf st la fm fc gr wi mn qx qy ss cl cp nx ny : Nat → Int32}
theorem zw_bit {op j : Nat} (hop : op < 45) (hj : j < ztk op) : (((zyp (nI op) >>> (nI j &&& 31)) &&& 1) = 1 ↔ zwt op j = 1) ∧ (zwt op j = 0 ∨ zwt op j = 1) := by
  have := ztk_le op
  exact (by decide +kernel : ∀ op, op < 45 → ∀ j, j < 6 → j < ztk op → ((((zyp (nI op) >>> (nI j &&& 31)) &&& 1) = 1 ↔ zwt op j = 1) ∧ (zwt op j = 0 ∨ zwt op j = 1))) op hop j (by omega) hj
theorem y_mixed_l {post : Int32 → Prop} {op h : Nat} (hop : op < 45) (hh : h ≤ 24) (ht : ztk op ≤ h) (hk : ∀ k, k < h → sk k = 0 ∨ sk k = 1) :
    ∀ d j, j + d = ztk op → post (if zmx op h sk d j = true then 1 else 0) → wY_mixed_16 post (nI op) yt yo (nI h) yi ya ye yp ys yc nw gn bg wd tk tv dg sk sv vk vv hw fr og lf st la fm fc gr wi mn qx qy ss cl cp nx ny (d + 1) (nI j) := by
  intro d
  have h6 := ztk_le op
  induction d with
  | zero =>
    intro j hj k
    unfold wY_mixed_16
    refine y_takes hop (ql_t (ztk op) j (by omega) ?_)
    rw [if_neg (by unfold zmx; decide)] at k
    exact k
  | succ d ih =>
    intro j hj k
    unfold wY_mixed_16
    refine y_takes hop (ql_f (ztk op) j (by omega) (y_isProc rfl rfl hh (by omega) (y_procs _ ?_)))
    obtain ⟨w1, w2⟩ := zw_bit (j := j) hop (by omega)
    have hkk := hk (h - 1 - j) (by omega)
    have go : ∀ z : Int32, z = zwt op j → wY_mixed_46 post (wY_mixed_16 post (nI op) yt yo (nI h) yi ya ye yp ys yc nw gn bg wd tk tv dg sk sv vk vv hw fr og lf st la fm fc gr wi mn qx qy ss cl cp nx ny (d + 1)) (nI op) (nI j) z (if sk (h - 1 - j) = 1 then 1 else 0) yt yo (nI h) yi ya ye yp ys yc nw gn bg wd tk tv dg sk sv vk vv hw fr og lf st la fm fc gr wi mn qx qy ss cl cp nx ny := by
      intro z hz
      subst hz
      have e1 : (if sk (h - 1 - j) = 1 then (1 : Int32) else 0) = sk (h - 1 - j) := by
        rcases hkk with e | e <;> rw [e] <;> rfl
      rw [e1]
      unfold zmx at k
      refine br_c (fun e => ?_) (fun e => ?_)
      · rw [if_pos e] at k
        exact nm_r (nI_1 j) (ih (j + 1) (by omega) k)
      · rw [if_neg e, if_pos rfl] at k
        exact k
    refine br_c (fun e => go 1 (w1.mp e).symm) (fun e => go 0 ?_)
    rcases w2 with e2 | e2
    · exact e2.symm
    · exact absurd (w1.mpr e2) e
theorem y_mixed {post : Int32 → Prop} {op h : Nat} (hop : op < 45) (hh : h ≤ 24) (ht : ztk op ≤ h) (hk : ∀ k, k < h → sk k = 0 ∨ sk k = 1) (hs : yh = nI h)
    (k : post (if zan op = false ∧ zmx op h sk (ztk op) 0 = true then 1 else 0)) : wpY_mixed post (yt, yo, yh, yi, ya, ye, yp, ys, yc, nw, gn, bg, wd, tk, tv, dg, sk, sv, vk, vv, hw, fr, og, lf, st, la, fm, fc, gr, wi, mn, qx, qy, ss, cl, cp, nx, ny) (nI op) := by
  subst hs
  refine pk_lt op 7 (fun h1 => ?_) (fun h1 => pk_lt 10 op (fun h2 => ?_) (fun h2 => ?_))
  · have hz : zan op = false := decide_eq_false (by omega)
    refine ⟨ztk op + 1, y_mixed_l hop hh ht hk (ztk op) 0 (by omega) ?_⟩
    by_cases hm : zmx op h sk (ztk op) 0 = true
    · rw [if_pos ⟨hz, hm⟩] at k; rw [if_pos hm]; exact k
    · rw [if_neg (fun z => hm z.2)] at k; rw [if_neg hm]; exact k
  · have hz : zan op = false := decide_eq_false (by omega)
    refine ⟨ztk op + 1, y_mixed_l hop hh ht hk (ztk op) 0 (by omega) ?_⟩
    by_cases hm : zmx op h sk (ztk op) 0 = true
    · rw [if_pos ⟨hz, hm⟩] at k; rw [if_pos hm]; exact k
    · rw [if_neg (fun z => hm z.2)] at k; rw [if_neg hm]; exact k
  · have hz : zan op = true := decide_eq_true (by omega)
    rw [if_neg (fun z => by rw [hz] at z; exact absurd z.1 (by decide))] at k
    exact k
theorem y_check49 {post : Int32 → SY → Prop} {op h : Nat} (hop : op < 45) (hh : h ≤ 24) (ht : ztk op ≤ h) (hs : yh = nI h)
    (k2 : 24 < h - ztk op + zpt op → post 2 (yt, yo, yh, yi, ya, ye, yp, ys, yc, nw, gn, bg, wd, tk, tv, dg, sk, sv, vk, vv, hw, fr, og, lf, st, la, fm, fc, gr, wi, mn, qx, qy, ss, cl, cp, nx, ny)) (k77 : ¬ 24 < h - ztk op + zpt op → op = 3 ∨ op = 4 → wY_check_77 post (nI op) (nI (ztk op)) yt yo yh yi ya ye yp ys yc nw gn bg wd tk tv dg sk sv vk vv hw fr og lf st la fm fc gr wi mn qx qy ss cl cp nx ny) (k87 : ¬ 24 < h - ztk op + zpt op → op ≠ 3 → op ≠ 4 → wY_check_87 post (nI op) (nI (ztk op)) yt yo yh yi ya ye yp ys yc nw gn bg wd tk tv dg sk sv vk vv hw fr og lf st la fm fc gr wi mn qx qy ss cl cp nx ny) :
    wY_check_49 post (nI op) (nI (ztk op)) yt yo yh yi ya ye yp ys yc nw gn bg wd tk tv dg sk sv vk vv hw fr og lf st la fm fc gr wi mn qx qy ss cl cp nx ny := by
  have hz := zpt_le op
  subst hs
  unfold wY_check_49
  refine y_puts hop ?_
  rw [pk_sub ht, nI_add]
  refine pk_le (h - ztk op + zpt op) 24 (fun h1 => pk_eq op 3 (fun e => k77 (by omega) (Or.inl e)) (fun e3 => pk_eq op 4 (fun e => k77 (by omega) (Or.inr e)) (fun e4 => k87 (by omega) e3 e4))) (fun h1 => k2 (by omega))
/-- check, up to the tests of its own that each operator has -/
theorem y_check {post : Int32 → SY → Prop} {op h pc : Nat} (hop : op < 45) (hh : h ≤ 24) (hp : pc ≤ 48) (hk : ∀ k, k < h → sk k = 0 ∨ sk k = 1) (hs : yh = nI h) (hm : mn 0 = nI pc)
    (ke : ZE1 op h sk pc ≠ 0 → post (nI (ZE1 op h sk pc)) (yt, yo, yh, yi, ya, ye, yp, ys, yc, nw, gn, bg, wd, tk, tv, dg, sk, sv, vk, vv, hw, fr, og, lf, st, la, fm, fc, gr, wi, mn, qx, qy, ss, cl, cp, nx, ny)) (k77 : ZE1 op h sk pc = 0 → op = 3 ∨ op = 4 → wY_check_77 post (nI op) (nI (ztk op)) yt yo yh yi ya ye yp ys yc nw gn bg wd tk tv dg sk sv vk vv hw fr og lf st la fm fc gr wi mn qx qy ss cl cp nx ny) (k87 : ZE1 op h sk pc = 0 → op ≠ 3 → op ≠ 4 → wY_check_87 post (nI op) (nI (ztk op)) yt yo yh yi ya ye yp ys yc nw gn bg wd tk tv dg sk sv vk vv hw fr og lf st la fm fc gr wi mn qx qy ss cl cp nx ny) :
    wpY_check post (yt, yo, yh, yi, ya, ye, yp, ys, yc, nw, gn, bg, wd, tk, tv, dg, sk, sv, vk, vv, hw, fr, og, lf, st, la, fm, fc, gr, wi, mn, qx, qy, ss, cl, cp, nx, ny) (nI op) := by
  have h6 := ztk_le op
  unfold ZE1 at ke k77 k87
  unfold wpY_check
  rw [hs]
  refine y_takes hop ?_
  refine pk_le (ztk op) h (fun h1 => ?_) (fun h1 => ?_)
  · rw [if_neg (by omega)] at ke k77 k87
    refine y_mixed hop hh h1 hk rfl ?_
    by_cases hz : zan op = false ∧ zmx op h sk (ztk op) 0 = true
    · rw [if_pos hz] at ke
      rw [if_pos hz]
      subst hs
      exact br_f (by decide) (ke (by decide))
    · rw [if_neg hz] at ke k77 k87
      rw [if_neg hz]
      subst hs
      have fin : ¬ (30 ≤ op ∧ op ≤ 35 ∧ pc = 0) → wY_check_49 post (nI op) (nI (ztk op)) yt yo (nI h) yi ya ye yp ys yc nw gn bg wd tk tv dg sk sv vk vv hw fr og lf st la fm fc gr wi mn qx qy ss cl cp nx ny := by
        intro h3
        rw [if_neg h3] at ke k77 k87
        refine y_check49 hop hh h1 rfl (fun h2 => ?_) (fun h2 => ?_) (fun h2 => ?_)
        · rw [if_pos h2] at ke; exact ke (by decide)
        · rw [if_neg h2] at k77; exact k77 rfl
        · rw [if_neg h2] at k87; exact k87 rfl
      refine br_t rfl (pk_lt op 30 (fun h2 => fin (by omega)) (fun h2 => pk_lt 35 op (fun h3 => fin (by omega)) (fun h3 => ?_)))
      rw [hm]
      refine pk_eq pc 0 (fun h4 => ?_) (fun h4 => fin (by omega))
      rw [if_pos (by omega)] at ke
      exact ke (by decide)
  · rw [if_pos h1] at ke
    subst hs
    exact ke (by decide)
/-- behind the tests of the first row -/
theorem ze_0 {op h pc : Nat} {sk : Nat → Int32} (e : ZE1 op h sk pc = 0) : ztk op ≤ h ∧ (zan op = false → ∀ j, j < ztk op → sk (h - 1 - j) = zwt op j) ∧ (30 ≤ op → op ≤ 35 → 0 < pc) ∧ h - ztk op + zpt op ≤ 24 := by
  unfold ZE1 at e
  by_cases h1 : h < ztk op
  · rw [if_pos h1] at e; omega
  · rw [if_neg h1] at e
    by_cases h2 : zan op = false ∧ zmx op h sk (ztk op) 0 = true
    · rw [if_pos h2] at e; omega
    · rw [if_neg h2] at e
      by_cases h3 : 30 ≤ op ∧ op ≤ 35 ∧ pc = 0
      · rw [if_pos h3] at e; omega
      · rw [if_neg h3] at e
        by_cases h4 : 24 < h - ztk op + zpt op
        · rw [if_pos h4] at e; omega
        · refine ⟨by omega, fun hz j hj => ?_, fun a b => by omega, by omega⟩
          exact zmx_f (ztk op) 0 (by
            cases hx : zmx op h sk (ztk op) 0 with
            | false => rfl
            | true => exact absurd ⟨hz, hx⟩ h2) j (by omega) (by omega)
/-- operators that plan nothing -/
theorem y_plan0 {post : SY → Prop} {op : Int32} (h23 : op ≠ 23) (h44 : op ≠ 44) (hr : op < 29 ∨ ¬ op ≤ 33) (k : post (yt, yo, yh, yi, ya, ye, yp, ys, yc, 0, 0, 0, 0, tk, tv, dg, sk, sv, vk, vv, hw, fr, og, lf, st, la, fm, fc, gr, wi, mn, qx, qy, ss, cl, cp, nx, ny)) : wpY_planAll post (yt, yo, yh, yi, ya, ye, yp, ys, yc, nw, gn, bg, wd, tk, tv, dg, sk, sv, vk, vv, hw, fr, og, lf, st, la, fm, fc, gr, wi, mn, qx, qy, ss, cl, cp, nx, ny) op := by
  refine br_f h23 (br_f h44 ?_)
  rcases hr with h | h
  · exact br_t h k
  · exact br_c (fun _ => k) (fun _ => br_f h k)
/-- what is left of check behind 155 (too much kept), for an operator without tests of its own there -/
theorem y_ck179 {post : Int32 → SY → Prop} {op : Int32} {h n : Nat} (hs : yh = nI h) (hh : h ≤ 24) (hn : n ≤ h) (hwd : wd = 0) (h24 : op ≠ 24) (h26 : op ≠ 26) (h27 : op ≠ 27) (h11 : op ≠ 11) (h18 : op ≠ 18) (h20 : op ≠ 20)
    (k : wY_check_335 post op yt yo yh yi ya ye yp ys yc nw gn bg wd tk tv dg sk sv vk vv hw fr og lf st la fm fc gr wi mn qx qy ss cl cp nx ny) : wY_check_179 post op (nI n) yt yo yh yi ya ye yp ys yc nw gn bg wd tk tv dg sk sv vk vv hw fr og lf st la fm fc gr wi mn qx qy ss cl cp nx ny := by
  have go : ∀ x, wY_check_192 post op x yt yo yh yi ya ye yp ys yc nw gn bg wd tk tv dg sk sv vk vv hw fr og lf st la fm fc gr wi mn qx qy ss cl cp nx ny := fun x => br_f h24 (br_f h26 (br_f h27 (br_f h11 (br_f h18 (br_f h24 (br_t hwd (br_f h20 k)))))))
  exact pk_le n 0 (fun _ => go 0) (fun h1 => y_top (j := 0) hs rfl hh (by omega) (go _))
theorem y_ck335n {post : Int32 → SY → Prop} {op : Int32} (h14 : op ≠ 14) (h16 : op ≠ 16) (h19 : op ≠ 19) (h15 : op ≠ 15) (h17 : op ≠ 17) (h18 : op ≠ 18) (k : post 0 (yt, yo, yh, yi, ya, ye, yp, ys, yc, nw, gn, bg, wd, tk, tv, dg, sk, sv, vk, vv, hw, fr, og, lf, st, la, fm, fc, gr, wi, mn, qx, qy, ss, cl, cp, nx, ny)) : wY_check_335 post op yt yo yh yi ya ye yp ys yc nw gn bg wd tk tv dg sk sv vk vv hw fr og lf st la fm fc gr wi mn qx qy ss cl cp nx ny := by
  refine br_c (fun _ => br_f h14 (br_f h16 (br_f h19 (br_f h15 (br_f h17 (br_f h18 (br_t rfl k))))))) (fun _ => k)
/-- check of an operator with no test of its own -/
theorem y_ck87 {post : Int32 → SY → Prop} {op : Int32} {h n pc : Nat} (hs : yh = nI h) (hh : h ≤ 24) (hn : n ≤ h) (hm : mn 0 = nI pc) (hp : pc ≤ 48) (h23 : op ≠ 23) (h44 : op ≠ 44) (hr : op < 29 ∨ ¬ op ≤ 33) (h33 : op ≠ 33) (h21 : op ≠ 21)
    (h24 : op ≠ 24) (h26 : op ≠ 26) (h27 : op ≠ 27) (h11 : op ≠ 11) (h18 : op ≠ 18) (h20 : op ≠ 20)
    (k : wY_check_335 post op yt yo yh yi ya ye yp ys yc 0 0 0 0 tk tv dg sk sv vk vv hw fr og lf st la fm fc gr wi mn qx qy ss cl cp nx ny) : wY_check_87 post op (nI n) yt yo yh yi ya ye yp ys yc nw gn bg wd tk tv dg sk sv vk vv hw fr og lf st la fm fc gr wi mn qx qy ss cl cp nx ny := by
  refine y_plan0 h23 h44 hr (br_f h33 (br_f h23 (br_f ?_ (br_f h21 (y_ck179 hs hh hn rfl h24 h26 h27 h11 h18 h20 k)))))
  rw [hm]
  show ¬ nI 48 < nI pc - nI 0 + nI 0
  rw [pk_sub (by omega), nI_add]
  exact nI_nlt (by omega) (by omega)
end
end
section
section
variable {tc ob ps su ep sd bc mA mB oX oY gY wD pC sC yt yo yh yi ya ye yp ys yc nw gn bg wd : Int32} {tk tv cb sk sv vk vv bp br bh bn bs bl px py pm cr sn sx sy sm sp dg hw fr og lf st la fm fc gr wi mn qx qy ss cl cp nx ny : Nat → Int32}
theorem zst_put {t h : Nat} {x y : Int32} (hS : ZST t tk h sk sv) (hh : h < 24) (hv : ZV t tk x y) : ZST t tk (h + 1) (upd sk h x) (upd sv h y) := by
  refine ⟨by omega, fun k hk => ?_⟩
  by_cases e : k = h
  · subst e; rw [pk_us, pk_us]; exact hv
  · rw [pk_un e, pk_un e]; exact hS.2 k (by omega)
theorem zst_le {t h h' : Nat} (hS : ZST t tk h sk sv) (hh : h' ≤ h) : ZST t tk h' sk sv := ⟨by have := hS.1; omega, fun k hk => hS.2 k (by omega)⟩
theorem zvr_put {t w : Nat} {x y : Int32} (hS : ZVR t tk vk vv) (hv : ZV t tk x y) : ZVR t tk (upd vk w x) (upd vv w y) := by
  intro k hk
  by_cases e : k = w
  · subst e; rw [pk_us, pk_us]; exact hv
  · rw [pk_un e, pk_un e]; exact hS k hk
theorem zv_0 {t : Nat} {y : Int32} : ZV t tk 0 y := Or.inl rfl
theorem zfr_le {t n n' : Nat} (hF : ZFR t tk cb n bp br bh bn bs bl hw fr og lf st la) (h : n' ≤ n) : ZFR t tk cb n' bp br bh bn bs bl hw fr og lf st la := ⟨by have := hF.1; omega, fun k hk => hF.2 k (by omega)⟩
theorem zst_k {t h : Nat} (hS : ZST t tk h sk sv) : ∀ k, k < h → sk k = 0 ∨ sk k = 1 := fun k hk => by
  rcases hS.2 k hk with e | e
  · exact Or.inl e
  · exact Or.inr e.1
/-- where a '{' ends, as the reference counts -/
theorem y_end_l {post : Int32 → Prop} {t p c : Nat} (ht : t ≤ 100) (h2 : tk p = 2) (hc : Zcl t tk cb p c) (k : post (nI c)) :
    ∀ d q, p ≤ q → q + d = c → wY_end_4 post yt yo yh yi ya ye yp ys yc nw gn bg wd tk tv dg sk sv vk vv hw fr og lf st la fm fc gr wi mn qx qy ss cl cp nx ny (d + 1) (nI (zl tk q - zl tk p).toNat) (nI q) := by
  obtain ⟨c1, c2, c3, c4, c5, c6⟩ := hc
  intro d
  induction d with
  | zero =>
    intro q hq hd
    have e : q = c := by omega
    subst e
    have e1 : (nI q).toNatClampNeg = q := zc_i (by omega)
    have hi : vp_in (nI q) 100 := vp_in_nI (by omega) (by omega)
    have l3 := zl_3 c4
    have e2 : (zl tk q - zl tk p).toNat = 0 + 1 := by omega
    rw [e2]
    refine ⟨hi, br_f (by rw [e1, c4]; decide) ⟨hi, br_t (by rw [e1]; exact c4) (nm_r (pk_m1 0) (nm_r (nI_1 q) (br_f (by decide) ?_)))⟩⟩
    rw [nI_pred]
    exact k
  | succ d ih =>
    intro q hq hd
    have e1 : (nI q).toNatClampNeg = q := zc_i (by omega)
    have hi : vp_in (nI q) 100 := vp_in_nI (by omega) (by omega)
    have hpos : zl tk p < zl tk (q + 1) := c6 (q + 1) (by omega) (by omega)
    have hlow : zl tk p ≤ zl tk q := by
      by_cases e : q = p
      · rw [e]; exact Int.le_refl _
      · have := c6 q (by omega) (by omega); omega
    have hb : ∀ m : Nat, zl tk m ≤ (m : Int) := by
      intro m
      induction m with
      | zero => exact Int.le_refl _
      | succ m ih =>
        have : zl tk (m + 1) ≤ zl tk m + 1 := by
          show zl tk m + _ ≤ _
          split
          · omega
          · split <;> omega
        omega
    have hb1 := hb (q + 1)
    have hbp : ∀ m : Nat, -(m : Int) ≤ zl tk m := by
      intro m
      induction m with
      | zero => exact Int.le_refl _
      | succ m ih =>
        have : zl tk m - 1 ≤ zl tk (m + 1) := by
          show _ ≤ zl tk m + _
          split
          · omega
          · split <;> omega
        omega
    have hb2 := hbp p
    have nxt := ih (q + 1) (by omega) (by omega)
    have h30 : wY_end_30 post (wY_end_4 post yt yo yh yi ya ye yp ys yc nw gn bg wd tk tv dg sk sv vk vv hw fr og lf st la fm fc gr wi mn qx qy ss cl cp nx ny (d + 1)) (nI (zl tk (q + 1) - zl tk p).toNat) (nI q) yt yo yh yi ya ye yp ys yc nw gn bg wd tk tv dg sk sv vk vv hw fr og lf st la fm fc gr wi mn qx qy ss cl cp nx ny := by
      refine nm_r (nI_1 q) (br_t ?_ nxt)
      exact nI_lt (a := 0) (by omega) (by omega)
    by_cases k2 : tk q = 2
    · have l2 := zl_2 k2
      have e2 : (zl tk (q + 1) - zl tk p).toNat = (zl tk q - zl tk p).toNat + 1 := by omega
      rw [e2] at h30
      exact ⟨hi, br_t (by rw [e1]; exact k2) (nm_r (nI_1 _) ⟨hi, br_f (by rw [e1, k2]; decide) h30⟩)⟩
    · by_cases k3 : tk q = 3
      · have l3 := zl_3 k3
        have e2 : (zl tk q - zl tk p).toNat = (zl tk (q + 1) - zl tk p).toNat + 1 := by omega
        rw [e2]
        exact ⟨hi, br_f (by rw [e1]; exact k2) ⟨hi, br_t (by rw [e1]; exact k3) (nm_r (pk_m1 _) h30)⟩⟩
      · have l3 := zl_o k2 k3
        rw [l3] at h30
        exact ⟨hi, br_f (by rw [e1]; exact k2) ⟨hi, br_f (by rw [e1]; exact k3) h30⟩⟩
theorem y_end {post : Int32 → Prop} {t p c : Nat} (ht : t ≤ 100) (h2 : tk p = 2) (hc : Zcl t tk cb p c) (k : post (nI c)) : wpY_end post (yt, yo, yh, yi, ya, ye, yp, ys, yc, nw, gn, bg, wd, tk, tv, dg, sk, sv, vk, vv, hw, fr, og, lf, st, la, fm, fc, gr, wi, mn, qx, qy, ss, cl, cp, nx, ny) (nI p) := by
  have : wY_end_4 post yt yo yh yi ya ye yp ys yc nw gn bg wd tk tv dg sk sv vk vv hw fr og lf st la fm fc gr wi mn qx qy ss cl cp nx ny (c - p + 1) (nI (zl tk p - zl tk p).toNat) (nI p) := y_end_l ht h2 hc k (c - p) p (Nat.le_refl _) (by have := hc.2.1; omega)
  rw [show (zl tk p - zl tk p).toNat = 0 by omega] at this
  exact ⟨c - p + 1, this⟩
/-! ===== one step: tokens that are no operators ===== -/
theorem st_num {t h n a c s : Nat} {PX : Int32 → SX → Prop} (hR : ZR t h n a c mA mB oX oY gY wD pC tk tv cb sk sv vk vv bp br bh bn bs bl px py pm cr sn sx sy sm sp hw fr og lf st la fm fc gr wi mn qx qy ss cl cp) (ha : a < t) (hk : tk a = 0)
    (H : ∀ (e : Int32) (u' : SX) (v' : SY), ZStep a (s + 1) e u' v' → (∀ PY : SY → Prop, PY v' → wpY_execute PY (nI t, 0, nI h, nI n, nI a, 0, -1, nI (s + 1), nI c, nw, gn, bg, wd, tk, tv, dg, sk, sv, vk, vv, hw, fr, og, lf, st, la, fm, fc, gr, wi, mn, qx, qy, ss, cl, cp, nx, ny)) → PX e u') : wpX_execute PX (nI t, 0, nI a, nI s, -1, nI h, nI n, mA, mB, oX, oY, gY, wD, pC, nI c, tk, tv, cb, sk, sv, vk, vv, bp, br, bh, bn, bs, bl, px, py, pm, cr, sn, sx, sy, sm, sp, dg) (nI a) := by
  obtain ⟨hT, hS, hV, hF, hPO, hG, hSV⟩ := hR
  have ht := hT.1
  have hi : vp_in (nI a) 100 := vp_in_nI (by omega) (by omega)
  have e : (nI a).toNatClampNeg = a := zc_i (by omega)
  have ek : tk (nI a).toNatClampNeg = 0 := by rw [e]; exact hk
  have e0 : ¬ (0 : Int32) < 0 := by decide
  refine nm_r (nI_1 s) (nm_r (nI_1 a) ⟨hi, br_f (by rw [ek]; decide) ⟨hi, nm_e ⟨hi, nm_r ek (br_f e0 (br_f (by decide) (br_t rfl ?_)))⟩⟩⟩)
  by_cases h24 : h = 24
  · refine x_putF rfl h24 (H 2 _ (nI t, 0, nI h, nI n, nI a, 2, -1, nI (s + 1), nI c, nw, gn, bg, wd, tk, tv, dg, sk, sv, vk, vv, hw, fr, og, lf, st, la, fm, fc, gr, wi, mn, qx, qy, ss, cl, cp, nx, ny) (zs_er ⟨hT, hS, hV, hF, hPO, hG, hSV⟩ (by decide)) (fun PY hp => ?_))
    exact ⟨hi, nm_e ⟨hi, nm_r ek (br_f e0 (br_f (by decide) (br_t rfl (br_t (by rw [h24]; rfl) hp))))⟩⟩
  · have hh : h < 24 := by have := hS.1; omega
    have hne : ¬ nI h = 24 := fun z => h24 ((nI_eq (b := 24) (by omega) (by omega)).mp z)
    refine x_put rfl hh (H 0 _ (nI t, 0, nI (h + 1), nI n, nI (a + 1), 0, -1, nI (s + 1), nI c, nw, gn, bg, wd, tk, tv, dg, upd sk h 0, upd sv h (tv (nI a).toNatClampNeg), vk, vv, hw, fr, og, lf, st, la, fm, fc, gr, wi, mn, qx, qy, ss, cl, cp, nx, ny) (zs_ok ⟨hT, zst_put hS hh zv_0, hV, hF, po_next hPO ha (by rw [hk]; decide) (by rw [hk]; decide), hG, hSV⟩ rfl rfl rfl rfl rfl rfl rfl rfl) (fun PY hp => ?_))
    exact ⟨hi, nm_e ⟨hi, nm_r ek (br_f e0 (br_f (by decide) (br_t rfl (br_f hne ⟨hi, br_t ek (y_put rfl hh ⟨hi, br_f (by rw [ek]; decide) (nm_r (nI_1 a) hp)⟩)⟩))))⟩⟩
theorem st_beg {t h n a c s : Nat} {PX : Int32 → SX → Prop} (hR : ZR t h n a c mA mB oX oY gY wD pC tk tv cb sk sv vk vv bp br bh bn bs bl px py pm cr sn sx sy sm sp hw fr og lf st la fm fc gr wi mn qx qy ss cl cp) (ha : a < t) (hk : tk a = 2)
    (H : ∀ (e : Int32) (u' : SX) (v' : SY), ZStep a (s + 1) e u' v' → (∀ PY : SY → Prop, PY v' → wpY_execute PY (nI t, 0, nI h, nI n, nI a, 0, -1, nI (s + 1), nI c, nw, gn, bg, wd, tk, tv, dg, sk, sv, vk, vv, hw, fr, og, lf, st, la, fm, fc, gr, wi, mn, qx, qy, ss, cl, cp, nx, ny)) → PX e u') : wpX_execute PX (nI t, 0, nI a, nI s, -1, nI h, nI n, mA, mB, oX, oY, gY, wD, pC, nI c, tk, tv, cb, sk, sv, vk, vv, bp, br, bh, bn, bs, bl, px, py, pm, cr, sn, sx, sy, sm, sp, dg) (nI a) := by
  obtain ⟨hT, hS, hV, hF, hPO, hG, hSV⟩ := hR
  have ht := hT.1
  obtain ⟨q, hq⟩ := tk_all hT ha hk
  have hi : vp_in (nI a) 100 := vp_in_nI (by omega) (by omega)
  have e : (nI a).toNatClampNeg = a := zc_i (by omega)
  have ek : tk (nI a).toNatClampNeg = 2 := by rw [e]; exact hk
  refine nm_r (nI_1 s) (nm_r (nI_1 a) ⟨hi, br_f (by rw [ek]; decide) ⟨hi, nm_e ⟨hi, nm_r ek (br_f (by decide) (br_f (by decide) (br_f (by decide) (br_f (by decide) (br_t rfl ⟨hi, nm_r (show cb (nI a).toNatClampNeg + 1 = nI (q + 1) by rw [e, hq.1, nI_1]) ?_⟩)))))⟩⟩⟩)
  by_cases h24 : h = 24
  · refine x_putF rfl h24 (H 2 _ (nI t, 0, nI h, nI n, nI a, 2, -1, nI (s + 1), nI c, nw, gn, bg, wd, tk, tv, dg, sk, sv, vk, vv, hw, fr, og, lf, st, la, fm, fc, gr, wi, mn, qx, qy, ss, cl, cp, nx, ny) (zs_er ⟨hT, hS, hV, hF, hPO, hG, hSV⟩ (by decide)) (fun PY hp => ?_))
    exact ⟨hi, nm_e ⟨hi, nm_r ek (br_f (by decide) (br_f (by decide) (br_f (by decide) (br_f (by decide) (br_t rfl (br_t (by rw [h24]; rfl) hp))))))⟩⟩
  · have hh : h < 24 := by have := hS.1; omega
    have hne : ¬ nI h = 24 := fun z => h24 ((nI_eq (b := 24) (by omega) (by omega)).mp z)
    refine x_put rfl hh (H 0 _ (nI t, 0, nI (h + 1), nI n, nI (q + 1), 0, -1, nI (s + 1), nI c, nw, gn, bg, wd, tk, tv, dg, upd sk h 1, upd sv h (nI a), vk, vv, hw, fr, og, lf, st, la, fm, fc, gr, wi, mn, qx, qy, ss, cl, cp, nx, ny) (zs_ok ⟨hT, zst_put hS hh (Or.inr ⟨rfl, a, ha, rfl, hk⟩), hV, hF, po_skip hPO hk hq, hG, hSV⟩ rfl rfl rfl rfl rfl rfl rfl rfl) (fun PY hp => ?_))
    refine ⟨hi, nm_e ⟨hi, nm_r ek (br_f (by decide) (br_f (by decide) (br_f (by decide) (br_f (by decide) (br_t rfl (br_f hne ⟨hi, br_f (by rw [ek]; decide) ⟨hi, br_t ek (y_put rfl hh ⟨hi, br_t ek ?_⟩)⟩⟩))))))⟩⟩
    exact y_end ht hk hq (nm_r (nI_1 q) hp)
theorem st_load {t h n a c s : Nat} {PX : Int32 → SX → Prop} (hR : ZR t h n a c mA mB oX oY gY wD pC tk tv cb sk sv vk vv bp br bh bn bs bl px py pm cr sn sx sy sm sp hw fr og lf st la fm fc gr wi mn qx qy ss cl cp) (ha : a < t) (hk : tk a = 4)
    (H : ∀ (e : Int32) (u' : SX) (v' : SY), ZStep a (s + 1) e u' v' → (∀ PY : SY → Prop, PY v' → wpY_execute PY (nI t, 0, nI h, nI n, nI a, 0, -1, nI (s + 1), nI c, nw, gn, bg, wd, tk, tv, dg, sk, sv, vk, vv, hw, fr, og, lf, st, la, fm, fc, gr, wi, mn, qx, qy, ss, cl, cp, nx, ny)) → PX e u') : wpX_execute PX (nI t, 0, nI a, nI s, -1, nI h, nI n, mA, mB, oX, oY, gY, wD, pC, nI c, tk, tv, cb, sk, sv, vk, vv, bp, br, bh, bn, bs, bl, px, py, pm, cr, sn, sx, sy, sm, sp, dg) (nI a) := by
  obtain ⟨hT, hS, hV, hF, hPO, hG, hSV⟩ := hR
  have ht := hT.1
  have hi : vp_in (nI a) 100 := vp_in_nI (by omega) (by omega)
  have e : (nI a).toNatClampNeg = a := zc_i (by omega)
  have ek : tk (nI a).toNatClampNeg = 4 := by rw [e]; exact hk
  obtain ⟨w, hw8, hwe⟩ : ∃ w : Nat, w < 8 ∧ tv a = nI w := by
    have := hT.2.1 a ha
    rw [hk] at this
    rcases this with z | ⟨z, _⟩ | z | z | ⟨_, z⟩ | ⟨z, _⟩
    · exact absurd z (by decide)
    · exact absurd z (by decide)
    · exact absurd z (by decide)
    · exact absurd z (by decide)
    · exact z
    · exact absurd z (by decide)
  have ev : tv (nI a).toNatClampNeg = nI w := by rw [e]; exact hwe
  have hwi : vp_in (nI w) 8 := vp_in_nI hw8 (by omega)
  have ew : (nI w).toNatClampNeg = w := zc_i (by omega)
  refine nm_r (nI_1 s) (nm_r (nI_1 a) ⟨hi, br_f (by rw [ek]; decide) ⟨hi, nm_r ev ⟨hi, nm_r ek (br_f (by decide) (br_f (by decide) (br_f (by decide) (br_f (by decide) (br_f (by decide) (br_f (by decide) (br_t rfl ⟨hwi, hwi, ?_⟩)))))))⟩⟩⟩)
  rw [ew]
  by_cases h24 : h = 24
  · refine x_putF rfl h24 (H 2 _ (nI t, 0, nI h, nI n, nI a, 2, -1, nI (s + 1), nI c, nw, gn, bg, wd, tk, tv, dg, sk, sv, vk, vv, hw, fr, og, lf, st, la, fm, fc, gr, wi, mn, qx, qy, ss, cl, cp, nx, ny) (zs_er ⟨hT, hS, hV, hF, hPO, hG, hSV⟩ (by decide)) (fun PY hp => ?_))
    exact ⟨hi, nm_e ⟨hi, nm_r ek (br_f (by decide) (br_f (by decide) (br_f (by decide) (br_f (by decide) (br_f (by decide) (br_f (by decide) (br_t rfl (br_t (by rw [h24]; rfl) hp))))))))⟩⟩
  · have hh : h < 24 := by have := hS.1; omega
    have hne : ¬ nI h = 24 := fun z => h24 ((nI_eq (b := 24) (by omega) (by omega)).mp z)
    refine x_put rfl hh (H 0 _ (nI t, 0, nI (h + 1), nI n, nI (a + 1), 0, -1, nI (s + 1), nI c, nw, gn, bg, wd, tk, tv, dg, upd sk h (vk w), upd sv h (vv w), vk, vv, hw, fr, og, lf, st, la, fm, fc, gr, wi, mn, qx, qy, ss, cl, cp, nx, ny) (zs_ok ⟨hT, zst_put hS hh (hV w hw8), hV, hF, po_next hPO ha (by rw [hk]; decide) (by rw [hk]; decide), hG, hSV⟩ rfl rfl rfl rfl rfl rfl rfl rfl) (fun PY hp => ?_))
    refine ⟨hi, nm_r ev ⟨hi, nm_r ek (br_f (by decide) (br_f (by decide) (br_f (by decide) (br_f (by decide) (br_f (by decide) (br_f (by decide) (br_t rfl (br_f hne ⟨hi, br_f (by rw [ek]; decide) ⟨hi, br_f (by rw [ek]; decide) ⟨hwi, hwi, ?_⟩⟩⟩))))))))⟩⟩
    rw [ew]
    exact y_put rfl hh ⟨hi, br_f (by rw [ek]; decide) (nm_r (nI_1 a) hp)⟩
theorem st_store {t h n a c s : Nat} {PX : Int32 → SX → Prop} (hR : ZR t h n a c mA mB oX oY gY wD pC tk tv cb sk sv vk vv bp br bh bn bs bl px py pm cr sn sx sy sm sp hw fr og lf st la fm fc gr wi mn qx qy ss cl cp) (ha : a < t) (hk : tk a = 5)
    (H : ∀ (e : Int32) (u' : SX) (v' : SY), ZStep a (s + 1) e u' v' → (∀ PY : SY → Prop, PY v' → wpY_execute PY (nI t, 0, nI h, nI n, nI a, 0, -1, nI (s + 1), nI c, nw, gn, bg, wd, tk, tv, dg, sk, sv, vk, vv, hw, fr, og, lf, st, la, fm, fc, gr, wi, mn, qx, qy, ss, cl, cp, nx, ny)) → PX e u') : wpX_execute PX (nI t, 0, nI a, nI s, -1, nI h, nI n, mA, mB, oX, oY, gY, wD, pC, nI c, tk, tv, cb, sk, sv, vk, vv, bp, br, bh, bn, bs, bl, px, py, pm, cr, sn, sx, sy, sm, sp, dg) (nI a) := by
  obtain ⟨hT, hS, hV, hF, hPO, hG, hSV⟩ := hR
  have ht := hT.1
  have hi : vp_in (nI a) 100 := vp_in_nI (by omega) (by omega)
  have e : (nI a).toNatClampNeg = a := zc_i (by omega)
  have ek : tk (nI a).toNatClampNeg = 5 := by rw [e]; exact hk
  obtain ⟨w, hw8, hwe⟩ : ∃ w : Nat, w < 8 ∧ tv a = nI w := by
    have := hT.2.1 a ha
    rw [hk] at this
    rcases this with z | ⟨z, _⟩ | z | z | ⟨z, _⟩ | ⟨_, z⟩
    · exact absurd z (by decide)
    · exact absurd z (by decide)
    · exact absurd z (by decide)
    · exact absurd z (by decide)
    · exact absurd z (by decide)
    · exact z
  have ev : tv (nI a).toNatClampNeg = nI w := by rw [e]; exact hwe
  have hwi : vp_in (nI w) 8 := vp_in_nI hw8 (by omega)
  have ew : (nI w).toNatClampNeg = w := zc_i (by omega)
  refine nm_r (nI_1 s) (nm_r (nI_1 a) ⟨hi, br_f (by rw [ek]; decide) ⟨hi, nm_r ev ⟨hi, nm_r ek (br_f (by decide) (br_t (by decide) ?_))⟩⟩⟩)
  by_cases h0 : h = 0
  · subst h0
    refine br_f (by decide) (H 1 _ (nI t, 0, 0, nI n, nI a, 1, -1, nI (s + 1), nI c, nw, gn, bg, wd, tk, tv, dg, sk, sv, vk, vv, hw, fr, og, lf, st, la, fm, fc, gr, wi, mn, qx, qy, ss, cl, cp, nx, ny) (zs_er ⟨hT, hS, hV, hF, hPO, hG, hSV⟩ (by decide)) (fun PY hp => ?_))
    exact ⟨hi, nm_e ⟨hi, nm_r ek (br_f (by decide) (br_f (by decide) (br_f (by decide) (br_f (by decide) (br_f (by decide) (br_f (by decide) (br_f (by decide) (br_t rfl (br_t rfl hp)))))))))⟩⟩
  · obtain ⟨h', rfl⟩ : ∃ h', h = h' + 1 := ⟨h - 1, by omega⟩
    have h24 := hS.1
    have hii : vp_in (nI h') 24 := vp_in_nI (by omega) (by omega)
    have eh : (nI h').toNatClampNeg = h' := zc_i (by omega)
    refine ql_t 1 (h' + 1) (by omega) (nm_r (nI_pred h') ⟨hii, hwi, nm_r (show _ = upd vk w (sk h') by rw [ew, eh]) ⟨hii, hwi, nm_r (show _ = upd vv w (sv h') by rw [ew, eh]) ?_⟩⟩)
    refine H 0 _ (nI t, 0, nI h', nI n, nI (a + 1), 0, -1, nI (s + 1), nI c, nw, gn, bg, wd, tk, tv, dg, sk, sv, upd vk w (sk h'), upd vv w (sv h'), hw, fr, og, lf, st, la, fm, fc, gr, wi, mn, qx, qy, ss, cl, cp, nx, ny) (zs_ok ⟨hT, zst_le hS (by omega), zvr_put hV (hS.2 h' (by omega)), hF, po_next hPO ha (by rw [hk]; decide) (by rw [hk]; decide), hG, hSV⟩ rfl rfl rfl rfl rfl rfl rfl rfl) (fun PY hp => ?_)
    exact ⟨hi, nm_r ev ⟨hi, nm_r ek (br_f (by decide) (br_f (by decide) (br_f (by decide) (br_f (by decide) (br_f (by decide) (br_f (by decide) (br_f (by decide) (br_t rfl (br_f (nI_ne0 (by omega) (by omega)) (nm_r (nI_pred h') ⟨hii, hwi, nm_r (show _ = upd vk w (sk h') by rw [ew, eh]) ⟨hii, hwi, nm_r (show _ = upd vv w (sv h') by rw [ew, eh]) (nm_r (nI_1 a) hp)⟩⟩))))))))))⟩⟩
end
end
section
theorem z64_i (a : Int32) : a.toInt64.toInt = a.toInt := Int32.toInt_toInt64 a
theorem z64_lo (a : Int32) : -2147483648 ≤ a.toInt := by have := a.le_toInt; simpa using this
theorem z64_hi (a : Int32) : a.toInt ≤ 2147483647 := by have := a.toInt_lt; omega
theorem z64_add (a b : Int32) : (a.toInt64 + b.toInt64).toInt = a.toInt + b.toInt := by
  have h1 := z64_lo a
  have h2 := z64_hi a
  have h3 := z64_lo b
  have h4 := z64_hi b
  rw [Int64.toInt_add, z64_i, z64_i]
  exact Int.bmod_eq_of_le (by omega) (by omega)
theorem z64_32 (a b : Int32) : (a.toInt64 + b.toInt64).toInt32 = a + b := by
  rw [Int64.toInt32_add, Int32.toInt32_toInt64, Int32.toInt32_toInt64]
theorem z64_lt {a b : Int64} : a < b ↔ a.toInt < b.toInt := Int64.lt_iff_toInt_lt
theorem z64_le {a b : Int64} : a ≤ b ↔ a.toInt ≤ b.toInt := Int64.le_iff_toInt_le
theorem z32_0 : (0 : Int32).toInt = 0 := by decide
theorem z32_1 : (1 : Int32).toInt = 1 := by decide
theorem z32_m1 : (-1 : Int32).toInt = -1 := by decide
def zre (x : Int64) (s l : Int32) : Int32 := if s ≤ 0 then (if x < l.toInt64 then 0 else 1) else (if l.toInt64 < x then 0 else 1)
def zry (x s l : Int32) : Int32 := if s ≤ 0 then (if x < l then 0 else 1) else (if l < x then 0 else 1)
theorem zre_i (x s l : Int32) : zre x.toInt64 s l = zry x s l := by
  unfold zre zry
  simp only [z64_lt, z64_i, zt_lt]
theorem x_isReached {post : Int32 → Prop} {x : Int64} {s l : Int32} (k : post (zre x s l)) : wpX_isReached post x s l := by
  unfold wpX_isReached
  simp only [zh post]
  exact k
theorem y_reaches {post : Int32 → Prop} {x s l : Int32} (k : post (zry x s l)) : wpY_reaches post x s l := by
  unfold wpY_reaches
  simp only [zh post]
  exact k
theorem zre_in {a s l : Int32} (h : a.toInt64 + s.toInt64 = (a.toInt64 + s.toInt64).toInt32.toInt64) : zry (a.toInt64 + s.toInt64).toInt32 s l = zre (a.toInt64 + s.toInt64) s l := by
  rw [← zre_i, ← h]
theorem zre_out {a s l : Int32} (h : ¬ a.toInt64 + s.toInt64 = (a.toInt64 + s.toInt64).toInt32.toInt64) : zre (a.toInt64 + s.toInt64) s l = 0 := by
  have hs : ¬ (-2147483648 ≤ a.toInt + s.toInt ∧ a.toInt + s.toInt ≤ 2147483647) := by
    intro z
    apply h
    apply Int64.toInt_inj.mp
    rw [z64_i, z64_32, z64_add, Int32.toInt_add]
    exact (Int.bmod_eq_of_le (by omega) (by omega)).symm
  have h1 := z64_lo a
  have h2 := z64_hi a
  have h3 := z64_lo l
  have h4 := z64_hi l
  unfold zre
  by_cases hs0 : s ≤ 0
  · rw [if_pos hs0, if_pos]
    rw [zt_le, z32_0] at hs0
    rw [z64_lt, z64_add, z64_i]
    omega
  · rw [if_neg hs0, if_pos]
    rw [zt_le, z32_0] at hs0
    rw [z64_lt, z64_add, z64_i]
    omega
theorem zre_rep (a : Int32) : zre (a.toInt64 + (-1 : Int32).toInt64) (-1) 1 = if a ≤ 1 then 0 else 1 := by
  unfold zre
  rw [if_pos (by decide)]
  by_cases h : a ≤ 1
  · rw [if_pos h, if_pos]
    rw [zt_le, z32_1] at h
    rw [z64_lt, z64_add, z64_i, z32_m1, z32_1]
    omega
  · rw [if_neg h, if_neg]
    rw [zt_le, z32_1] at h
    rw [z64_lt, z64_add, z64_i, z32_m1, z32_1]
    omega
theorem zre_01 (x : Int64) (s l : Int32) : zre x s l = 0 ∨ zre x s l = 1 := by
  unfold zre
  split <;> split <;> simp
section
variable {tc ob ps su ep sd bc mA mB oX oY gY wD pC sC yt yo yh yi ya ye yp ys yc nw gn bg wd : Int32} {tk tv cb sk sv vk vv bp br bh bn bs bl px py pm cr sn sx sy sm sp dg hw fr og lf st la fm fc gr wi mn qx qy ss cl cp nx ny : Nat → Int32}
theorem zfr_now {t m : Nat} (hF : ZFR t tk cb (m + 1) bp br bh bn bs bl hw fr og lf st la) {bn' lf' : Nat → Int32} (e1 : ∀ k, k < m → bn' k = bn k) (e2 : ∀ k, k < m → lf' k = lf k) (e3 : bh m = 1 ∨ bh m = 2 → lf' m = bn' m) :
    ZFR t tk cb (m + 1) bp br bh bn' bs bl hw fr og lf' st la := by
  refine ⟨hF.1, fun k hk => ?_⟩
  obtain ⟨a1, a2, a3, a4⟩ := hF.2 k hk
  by_cases e : k = m
  · subst e
    exact ⟨a1, a2, fun z => ⟨e3 (Or.inr z), (a3 z).2⟩, fun z => ⟨e3 (Or.inl z), (a4 z).2⟩⟩
  · refine ⟨a1, a2, fun z => ⟨?_, (a3 z).2⟩, fun z => ⟨?_, (a4 z).2⟩⟩
    · rw [e1 k (by omega), e2 k (by omega)]; exact (a3 z).1
    · rw [e1 k (by omega), e2 k (by omega)]; exact (a4 z).1
theorem po_again {t m p : Nat} (hT : ZTK t 0 tk tv cb) (hp : p < t) (h2 : tk p = 2) (e : bp m = nI p) : ZPO t tk cb bp (m + 1) (p + 1) := by
  have := po_in (bp := bp) (n := m) hT hp h2
  rw [zu_self e] at this
  exact this
theorem x_ep86_0 {post : Int32 → SX → Prop} {m : Nat} {x2 : Int32} {x4 : Int64} (hm : m < 12) (k : post 0 (tc, ob, br m, su, ep, sd, nI m, mA, mB, oX, oY, gY, wD, pC, sC, tk, tv, cb, sk, sv, vk, vv, bp, br, bh, bn, bs, bl, px, py, pm, cr, sn, sx, sy, sm, sp, dg)) : wX_endProcedure_86 post (nI m) x2 x4 0 tc ob ps su ep sd bc mA mB oX oY gY wD pC sC tk tv cb sk sv vk vv bp br bh bn bs bl px py pm cr sn sx sy sm sp dg :=
  br_t rfl ⟨vp_in_nI hm (by omega), nm_r (congrArg br (zc_i (by omega))) k⟩
theorem x_ep86_1 {post : Int32 → SX → Prop} {m p : Nat} {x2 : Int32} {x4 : Int64} (hm : m < 12) (h2 : x2 ≠ 2) (hp : bp m = nI p) (k : post 0 (tc, ob, nI (p + 1), su, ep, sd, bc, mA, mB, oX, oY, gY, wD, pC, sC, tk, tv, cb, sk, sv, vk, vv, bp, br, bh, upd bn m x4.toInt32, bs, bl, px, py, pm, cr, sn, sx, sy, sm, sp, dg)) : wX_endProcedure_86 post (nI m) x2 x4 1 tc ob ps su ep sd bc mA mB oX oY gY wD pC sC tk tv cb sk sv vk vv bp br bh bn bs bl px py pm cr sn sx sy sm sp dg := by
  have e : (nI m).toNatClampNeg = m := zc_i (by omega)
  exact br_f (by decide) ⟨vp_in_nI hm (by omega), nm_r (congrArg (fun q => upd bn q x4.toInt32) e) ⟨vp_in_nI hm (by omega), nm_r (show bp (nI m).toNatClampNeg + 1 = nI (p + 1) by rw [e, hp, nI_1]) (br_f h2 k)⟩⟩
theorem y_be161_0 {post : SY → Prop} {m o : Nat} (hm : m < 12) (ho : og m = nI o) (hyi : yi = nI (m + 1)) (k : post (yt, yo, yh, nI m, nI (o + 1), ye, yp, ys, yc, nw, gn, bg, wd, tk, tv, dg, sk, sv, vk, vv, hw, fr, og, lf, st, la, fm, fc, gr, wi, mn, qx, qy, ss, cl, cp, nx, ny)) : wY_bracketEnds_161 post (nI m) 0 yt yo yh yi ya ye yp ys yc nw gn bg wd tk tv dg sk sv vk vv hw fr og lf st la fm fc gr wi mn qx qy ss cl cp nx ny := by
  subst hyi
  exact br_t rfl (nm_r (nI_pred m) ⟨vp_in_nI hm (by omega), nm_r (show og (nI m).toNatClampNeg + 1 = nI (o + 1) by rw [zc_i (by omega), ho, nI_1]) k⟩)
theorem y_be161_1 {post : SY → Prop} {m p : Nat} {x2 : Int32} (hm : m < 12) (hx : x2 ≠ 0) (hp : fr m = nI (p + 1)) (k : post (yt, yo, yh, yi, nI (p + 1), ye, yp, ys, yc, nw, gn, bg, wd, tk, tv, dg, sk, sv, vk, vv, hw, fr, og, lf, st, la, fm, fc, gr, wi, mn, qx, qy, ss, cl, cp, nx, ny)) : wY_bracketEnds_161 post (nI m) x2 yt yo yh yi ya ye yp ys yc nw gn bg wd tk tv dg sk sv vk vv hw fr og lf st la fm fc gr wi mn qx qy ss cl cp nx ny :=
  br_f hx ⟨vp_in_nI hm (by omega), nm_r (show fr (nI m).toNatClampNeg = nI (p + 1) by rw [zc_i (by omega), hp]) k⟩
theorem st_end {t h n a c s : Nat} {PX : Int32 → SX → Prop} (hR : ZR t h n a c mA mB oX oY gY wD pC tk tv cb sk sv vk vv bp br bh bn bs bl px py pm cr sn sx sy sm sp hw fr og lf st la fm fc gr wi mn qx qy ss cl cp) (ha : a < t) (hk : tk a = 3)
    (H : ∀ (e : Int32) (u' : SX) (v' : SY), ZStep a (s + 1) e u' v' → (∀ PY : SY → Prop, PY v' → wpY_execute PY (nI t, 0, nI h, nI n, nI a, 0, -1, nI (s + 1), nI c, nw, gn, bg, wd, tk, tv, dg, sk, sv, vk, vv, hw, fr, og, lf, st, la, fm, fc, gr, wi, mn, qx, qy, ss, cl, cp, nx, ny)) → PX e u') : wpX_execute PX (nI t, 0, nI a, nI s, -1, nI h, nI n, mA, mB, oX, oY, gY, wD, pC, nI c, tk, tv, cb, sk, sv, vk, vv, bp, br, bh, bn, bs, bl, px, py, pm, cr, sn, sx, sy, sm, sp, dg) (nI a) := by
  obtain ⟨hT, hS, hV, hF, hPO, hG, hSV⟩ := hR
  have hR' : ZR t h n a c mA mB oX oY gY wD pC tk tv cb sk sv vk vv bp br bh bn bs bl px py pm cr sn sx sy sm sp hw fr og lf st la fm fc gr wi mn qx qy ss cl cp := ⟨hT, hS, hV, hF, hPO, hG, hSV⟩
  have ht := hT.1
  have hn := po_end hT hPO ha hk
  obtain ⟨m, rfl⟩ : ∃ m, n = m + 1 := ⟨n - 1, by omega⟩
  have hm : m < 12 := by have := hF.1; omega
  obtain ⟨⟨p, o, hp, hp2, e_bp, e_fr, e_br, e_og, hpo⟩, e_hw, f2, f1⟩ := hF.2 m (by omega)
  have hi : vp_in (nI a) 100 := vp_in_nI (by omega) (by omega)
  have hmi : vp_in (nI m) 12 := vp_in_nI hm (by omega)
  have e : (nI a).toNatClampNeg = a := zc_i (by omega)
  have em : (nI m).toNatClampNeg = m := zc_i (by omega)
  have ek : tk (nI a).toNatClampNeg = 3 := by rw [e]; exact hk
  have ehw : hw (nI m).toNatClampNeg = bh m := by rw [em]; exact e_hw
  refine nm_r (nI_1 s) (nm_r (nI_1 a) ⟨hi, br_f (by rw [ek]; decide) ⟨hi, nm_e ⟨hi, nm_r ek (br_f (by decide) (br_f (by decide) (br_f (by decide) (br_f (by decide) (br_f (by decide) (br_t rfl ?_))))))⟩⟩⟩)
  have Yin : ∀ PY : SY → Prop, (bh m = 3 → wY_bracketEnds_22 PY (nI m) 1 (nI t) 0 (nI h) (nI (m + 1)) (nI a) 0 (-1) (nI (s + 1)) (nI c) nw gn bg wd tk tv dg sk sv vk vv hw fr og lf st la fm fc gr wi mn qx qy ss cl cp nx ny) → (bh m ≠ 3 → wY_bracketEnds_22 PY (nI m) 0 (nI t) 0 (nI h) (nI (m + 1)) (nI a) 0 (-1) (nI (s + 1)) (nI c) nw gn bg wd tk tv dg sk sv vk vv hw fr og lf st la fm fc gr wi mn qx qy ss cl cp nx ny) → wpY_execute PY (nI t, 0, nI h, nI (m + 1), nI a, 0, -1, nI (s + 1), nI c, nw, gn, bg, wd, tk, tv, dg, sk, sv, vk, vv, hw, fr, og, lf, st, la, fm, fc, gr, wi, mn, qx, qy, ss, cl, cp, nx, ny) := by
    intro PY k3 k0
    refine ⟨hi, nm_e ⟨hi, nm_r ek (br_f (by decide) (br_f (by decide) (br_f (by decide) (br_f (by decide) (br_f (by decide) (br_t rfl (nm_r (nI_pred m) ⟨hmi, ?_⟩)))))))⟩⟩
    rw [ehw]
    exact br_c k3 k0
  have hpop : ∀ lf' : Nat → Int32, (∀ k, k < m → lf' k = lf k) → ZR t h m (o + 1) c mA mB oX oY gY wD pC tk tv cb sk sv vk vv bp br bh bn bs bl px py pm cr sn sx sy sm sp hw fr og lf' st la fm fc gr wi mn qx qy ss cl cp := fun lf' el => by
    refine ⟨hT, hS, hV, ?_, hpo, hG, hSV⟩
    have := zfr_now hF (bn' := fun k => if k < m then bn k else lf' k) (lf' := lf') (fun k hk => if_pos hk) el (fun _ => (if_neg (by omega)).symm)
    refine ⟨by omega, fun k hk' => ?_⟩
    have := this.2 k (by omega)
    dsimp only at this
    rw [if_pos hk'] at this
    exact this
  have hag : ∀ bn' lf' : Nat → Int32, (∀ k, k < m → bn' k = bn k) → (∀ k, k < m → lf' k = lf k) → (bh m = 1 ∨ bh m = 2 → lf' m = bn' m) → ZR t h (m + 1) (p + 1) c mA mB oX oY gY wD pC tk tv cb sk sv vk vv bp br bh bn' bs bl px py pm cr sn sx sy sm sp hw fr og lf' st la fm fc gr wi mn qx qy ss cl cp :=
    fun bn' lf' e1 e2 e3 => ⟨hT, hS, hV, zfr_now hF e1 e2 e3, po_again hT hp hp2 e_bp, hG, hSV⟩
  refine nm_r (nI_pred m) (ql_t 0 m (by omega) ⟨hmi, nm_r (congrArg bh em) ⟨hmi, nm_r (congrArg bs em) ⟨hmi, nm_r (show _ = (bn m).toInt64 + (bs m).toInt64 by rw [em]) ?_⟩⟩⟩)
  by_cases c1 : bh m = 1
  · obtain ⟨g1, g2, g3⟩ := f1 c1
    refine br_t c1 (br_f (by decide) ⟨hmi, x_isReached ?_⟩)
    rw [em, g2, g3, zre_rep]
    have elf : lf (nI m).toNatClampNeg = bn m := by rw [em]; exact g1
    by_cases hle : bn m ≤ 1
    · rw [if_pos hle]
      refine x_ep86_0 hm (H 0 _ (nI t, 0, nI h, nI m, nI (o + 1), 0, -1, nI (s + 1), nI c, nw, gn, bg, wd, tk, tv, dg, sk, sv, vk, vv, hw, fr, og, upd lf m (bn m - 1), st, la, fm, fc, gr, wi, mn, qx, qy, ss, cl, cp, nx, ny) (zs_ok (hpop _ (fun k hk => pk_un (by omega))) e_br rfl rfl rfl rfl rfl rfl rfl) (fun PY hp' => Yin PY (fun z => absurd (c1.symm.trans z) (by decide)) (fun _ => ⟨hmi, br_t (ehw.trans c1) ⟨hmi, br_t (by rw [elf]; exact hle) ⟨hmi, hmi, nm_r (show _ = upd lf m (bn m - 1) by rw [em, g1]) ⟨hmi, br_f (by rw [ehw, c1]; decide) (y_be161_0 hm e_og rfl hp')⟩⟩⟩⟩)))
    · rw [if_neg hle]
      refine x_ep86_1 hm (by rw [c1]; decide) e_bp (H 0 _ (nI t, 0, nI h, nI (m + 1), nI (p + 1), 0, -1, nI (s + 1), nI c, nw, gn, bg, wd, tk, tv, dg, sk, sv, vk, vv, hw, fr, og, upd lf m (bn m - 1), st, la, fm, fc, gr, wi, mn, qx, qy, ss, cl, cp, nx, ny) (zs_ok (hag _ _ (fun k hk => pk_un (by omega)) (fun k hk => pk_un (by omega)) (fun _ => ?_)) rfl rfl rfl rfl rfl rfl rfl rfl) (fun PY hp' => Yin PY (fun z => absurd (c1.symm.trans z) (by decide)) (fun _ => ⟨hmi, br_t (ehw.trans c1) ⟨hmi, br_f (by rw [elf]; exact hle) ⟨hmi, hmi, nm_r (show _ = upd lf m (bn m - 1) by rw [em, g1]) ⟨hmi, br_f (by rw [ehw, c1]; decide) (y_be161_1 hm (by decide) e_fr hp')⟩⟩⟩⟩)))
      rw [pk_us, pk_us, z64_32]
      grind
  · by_cases c2 : bh m = 2
    · obtain ⟨g1, g2, g3⟩ := f2 c2
      refine br_f c1 (br_t c2 (br_f (by decide) ⟨hmi, x_isReached ?_⟩))
      have elf : lf (nI m).toNatClampNeg = bn m := by rw [em]; exact g1
      have est : st (nI m).toNatClampNeg = bs m := by rw [em]; exact g2
      have ela : la (nI m).toNatClampNeg = bl m := by rw [em]; exact g3
      rw [em]
      have Y59 : ∀ PY : SY → Prop, wY_bracketEnds_118 PY (nI m) ((bn m).toInt64 + (bs m).toInt64) (zre ((bn m).toInt64 + (bs m).toInt64) (bs m) (bl m)) (nI t) 0 (nI h) (nI (m + 1)) (nI a) 0 (-1) (nI (s + 1)) (nI c) nw gn bg wd tk tv dg sk sv vk vv hw fr og lf st la fm fc gr wi mn qx qy ss cl cp nx ny → wpY_execute PY (nI t, 0, nI h, nI (m + 1), nI a, 0, -1, nI (s + 1), nI c, nw, gn, bg, wd, tk, tv, dg, sk, sv, vk, vv, hw, fr, og, lf, st, la, fm, fc, gr, wi, mn, qx, qy, ss, cl, cp, nx, ny) := by
        intro PY k
        refine Yin PY (fun z => absurd (c2.symm.trans z) (by decide)) (fun _ => ⟨hmi, br_f (by rw [ehw]; exact c1) ⟨hmi, br_t (ehw.trans c2) ⟨hmi, hmi, nm_r (show _ = (bn m).toInt64 + (bs m).toInt64 by rw [elf, est]) (br_c (fun hin => ⟨hmi, hmi, ?_⟩) (fun hout => ?_))⟩⟩⟩)
        · rw [est, ela]
          refine y_reaches ?_
          rw [zre_in hin]
          rcases zre_01 ((bn m).toInt64 + (bs m).toInt64) (bs m) (bl m) with z | z
          · rw [z] at k ⊢
            exact br_t rfl k
          · rw [z] at k ⊢
            exact br_f (by decide) k
        · rw [zre_out hout] at k
          exact k
      rcases zre_01 ((bn m).toInt64 + (bs m).toInt64) (bs m) (bl m) with z | z
      · rw [z] at Y59 ⊢
        refine x_ep86_0 hm (H 0 _ (nI t, 0, nI h, nI m, nI (o + 1), 0, -1, nI (s + 1), nI c, nw, gn, bg, wd, tk, tv, dg, sk, sv, vk, vv, hw, fr, og, lf, st, la, fm, fc, gr, wi, mn, qx, qy, ss, cl, cp, nx, ny) (zs_ok (hpop _ (fun k hk => rfl)) e_br rfl rfl rfl rfl rfl rfl rfl) (fun PY hp' => Y59 PY (br_t rfl (br_t rfl (y_be161_0 hm e_og rfl hp')))))
      · rw [z] at Y59 ⊢
        refine br_f (by decide) ⟨hmi, nm_r (congrArg (fun q => upd bn q _) em) ⟨hmi, nm_r (show bp (nI m).toNatClampNeg + 1 = nI (p + 1) by rw [em, e_bp, nI_1]) (br_t c2 ?_)⟩⟩
        by_cases h24 : h = 24
        · refine x_putF rfl h24 (H 2 _ (nI t, 0, nI h, nI (m + 1), nI a, 2, -1, nI (s + 1), nI c, nw, gn, bg, wd, tk, tv, dg, sk, sv, vk, vv, hw, fr, og, lf, st, la, fm, fc, gr, wi, mn, qx, qy, ss, cl, cp, nx, ny) (zs_er hR' (by decide)) (fun PY hp' => Y59 PY (br_f (by decide) (br_t (by rw [h24]; rfl) hp'))))
        · have hh : h < 24 := by have := hS.1; omega
          have hne : ¬ nI h = 24 := fun z => h24 ((nI_eq (b := 24) (by omega) (by omega)).mp z)
          refine x_put rfl hh (H 0 _ (nI t, 0, nI (h + 1), nI (m + 1), nI (p + 1), 0, -1, nI (s + 1), nI c, nw, gn, bg, wd, tk, tv, dg, upd sk h 0, upd sv h ((bn m).toInt64 + (bs m).toInt64).toInt32, vk, vv, hw, fr, og, upd lf m ((bn m).toInt64 + (bs m).toInt64).toInt32, st, la, fm, fc, gr, wi, mn, qx, qy, ss, cl, cp, nx, ny) (zs_ok ?_ rfl rfl rfl rfl rfl rfl rfl rfl) (fun PY hp' => Y59 PY (br_f (by decide) (br_f hne (br_f (by decide) ⟨hmi, nm_r (congrArg (fun q => upd lf q _) em) ⟨hmi, ?_⟩⟩)))))
          · obtain ⟨q1, q2, q3, q4, q5, q6, q7⟩ := hag (upd bn m ((bn m).toInt64 + (bs m).toInt64).toInt32) (upd lf m ((bn m).toInt64 + (bs m).toInt64).toInt32) (fun k hk => pk_un (by omega)) (fun k hk => pk_un (by omega)) (fun _ => by rw [pk_us, pk_us])
            exact ⟨q1, zst_put hS hh zv_0, q3, q4, q5, q6, q7⟩
          · rw [em, pk_us]
            exact y_put rfl hh (y_be161_1 hm (by decide) e_fr hp')
    · refine br_f c1 (br_f c2 (br_t rfl ?_))
      by_cases c3 : bh m = 3
      · refine br_t c3 (x_ep86_1 hm c2 e_bp (H 0 _ (nI t, 0, nI h, nI (m + 1), nI (p + 1), 0, -1, nI (s + 1), nI c, nw, gn, bg, wd, tk, tv, dg, sk, sv, vk, vv, hw, fr, og, lf, st, la, fm, fc, gr, wi, mn, qx, qy, ss, cl, cp, nx, ny) (zs_ok (hag _ _ (fun k hk => pk_un (by omega)) (fun k hk => rfl) (fun z => ?_)) rfl rfl rfl rfl rfl rfl rfl rfl) (fun PY hp' => Yin PY (fun _ => ⟨hmi, br_f (by rw [ehw]; exact c1) ⟨hmi, br_f (by rw [ehw]; exact c2) (y_be161_1 hm (by decide) e_fr hp')⟩⟩) (fun z => absurd c3 z))))
        rcases z with z | z
        · exact absurd z c1
        · exact absurd z c2
      · refine br_f c3 (x_ep86_0 hm (H 0 _ (nI t, 0, nI h, nI m, nI (o + 1), 0, -1, nI (s + 1), nI c, nw, gn, bg, wd, tk, tv, dg, sk, sv, vk, vv, hw, fr, og, lf, st, la, fm, fc, gr, wi, mn, qx, qy, ss, cl, cp, nx, ny) (zs_ok (hpop _ (fun k hk => rfl)) e_br rfl rfl rfl rfl rfl rfl rfl) (fun PY hp' => Yin PY (fun z => absurd z c3) (fun _ => ⟨hmi, br_f (by rw [ehw]; exact c1) ⟨hmi, br_f (by rw [ehw]; exact c2) (y_be161_0 hm e_og rfl hp')⟩⟩))))
end
end
section
section
variable {tc ob ps su ep sd bc mA mB oX oY gY wD pC sC yt yo yh yi ya ye yp ys yc nw gn bg wd : Int32} {tk tv cb sk sv vk vv bp br bh bn bs bl px py pm cr sn sx sy sm sp dg hw fr og lf st la fm fc gr wi mn qx qy ss cl cp nx ny : Nat → Int32}
theorem zg_mn {a b ox oy g w m : Int32} {f : Nat → Int32} {F G W M : Int32} {pc : Nat} (hG : ZGS a b ox oy g w m px py pm cr f F G W M qx qy ss cl cp) (e : m = nI pc) : M = nI pc := hG.2.2.2.1.trans e
theorem x_oe0 {post : Int32 → Prop} {op h pc : Nat} (hop : op < 45) (hh : h ≤ 24) (hp : pc ≤ 48) (hs : sd = nI h) (hc : pC = nI pc) (hE : ZE1 op h sk pc = 0) (k : post 0) : wpX_operandError post (tc, ob, ps, su, ep, sd, bc, mA, mB, oX, oY, gY, wD, pC, sC, tk, tv, cb, sk, sv, vk, vv, bp, br, bh, bn, bs, bl, px, py, pm, cr, sn, sx, sy, sm, sp, dg) (nI op) := by
  refine x_oe hop hh hp hs hc ?_
  rw [hE]
  exact k
theorem x_calc159 {post : Int32 → SX → Prop} {op h n : Nat} {x : Int32} (hop : op < 45) (hn : ztk op = n) (hz : n ≤ h) (hh : h - n < 24) (hs : sd = nI h) (k : post 0 (tc, ob, ps, su, ep, nI (h - n + 1), bc, mA, mB, oX, oY, gY, wD, pC, sC, tk, tv, cb, upd sk (h - n) 0, upd sv (h - n) x, vk, vv, bp, br, bh, bn, bs, bl, px, py, pm, cr, sn, sx, sy, sm, sp, dg)) : wX_calculate_159 post (nI op) x tc ob ps su ep sd bc mA mB oX oY gY wD pC sC tk tv cb sk sv vk vv bp br bh bn bs bl px py pm cr sn sx sy sm sp dg := by
  subst hs hn
  unfold wX_calculate_159
  exact x_takenBy hop (nm_r (pk_sub hz) (x_put rfl hh k))
theorem y_c311 {post : SY → Prop} {op : Int32} (h13 : op ≠ 13) (k : post (yt, yo, yh, yi, ya + 1, ye, yp, ys, yc, nw, gn, bg, wd, tk, tv, dg, sk, sv, vk, vv, hw, fr, og, lf, st, la, fm, fc, gr, wi, mn, qx, qy, ss, cl, cp, nx, ny)) : wY_compute_311 post op  yt yo yh yi ya ye yp ys yc nw gn bg wd tk tv dg sk sv vk vv hw fr og lf st la fm fc gr wi mn qx qy ss cl cp nx ny := br_f h13 (nm_e k)
theorem y_c296 {post : SY → Prop} {op : Int32} (h12 : op ≠ 12) (h13 : op ≠ 13) (k : post (yt, yo, yh, yi, ya + 1, ye, yp, ys, yc, nw, gn, bg, wd, tk, tv, dg, sk, sv, vk, vv, hw, fr, og, lf, st, la, fm, fc, gr, wi, mn, qx, qy, ss, cl, cp, nx, ny)) : wY_compute_296 post op  yt yo yh yi ya ye yp ys yc nw gn bg wd tk tv dg sk sv vk vv hw fr og lf st la fm fc gr wi mn qx qy ss cl cp nx ny := br_f h12 (y_c311 h13 k)
theorem y_c262 {post : SY → Prop} {op : Int32} {x3 : Int32} (h11 : op ≠ 11) (h12 : op ≠ 12) (h13 : op ≠ 13) (k : post (yt, yo, yh, yi, ya + 1, ye, yp, ys, yc, nw, gn, bg, wd, tk, tv, dg, sk, sv, vk, vv, hw, fr, og, lf, st, la, fm, fc, gr, wi, mn, qx, qy, ss, cl, cp, nx, ny)) : wY_compute_262 post op x3 yt yo yh yi ya ye yp ys yc nw gn bg wd tk tv dg sk sv vk vv hw fr og lf st la fm fc gr wi mn qx qy ss cl cp nx ny := br_f h11 (y_c296 h12 h13 k)
theorem y_c248 {post : SY → Prop} {op : Int32} {x3 x4 x6 : Int32} (h10 : op ≠ 10) (h11 : op ≠ 11) (h12 : op ≠ 12) (h13 : op ≠ 13) (k : post (yt, yo, yh, yi, ya + 1, ye, yp, ys, yc, nw, gn, bg, wd, tk, tv, dg, sk, sv, vk, vv, hw, fr, og, lf, st, la, fm, fc, gr, wi, mn, qx, qy, ss, cl, cp, nx, ny)) : wY_compute_248 post op x3 x4 x6 yt yo yh yi ya ye yp ys yc nw gn bg wd tk tv dg sk sv vk vv hw fr og lf st la fm fc gr wi mn qx qy ss cl cp nx ny := br_f h10 (y_c262 h11 h12 h13 k)
theorem y_c235 {post : SY → Prop} {op : Int32} {x3 x4 x5 x6 : Int32} (h9 : op ≠ 9) (h10 : op ≠ 10) (h11 : op ≠ 11) (h12 : op ≠ 12) (h13 : op ≠ 13) (k : post (yt, yo, yh, yi, ya + 1, ye, yp, ys, yc, nw, gn, bg, wd, tk, tv, dg, sk, sv, vk, vv, hw, fr, og, lf, st, la, fm, fc, gr, wi, mn, qx, qy, ss, cl, cp, nx, ny)) : wY_compute_235 post op x3 x4 x5 x6 yt yo yh yi ya ye yp ys yc nw gn bg wd tk tv dg sk sv vk vv hw fr og lf st la fm fc gr wi mn qx qy ss cl cp nx ny := br_f h9 (y_c248 h10 h11 h12 h13 k)
theorem y_c216 {post : SY → Prop} {op : Int32} {x3 x4 x5 x6 : Int32} (h9 : op ≠ 9) (h10 : op ≠ 10) (h11 : op ≠ 11) (h12 : op ≠ 12) (h13 : op ≠ 13) (k : post (yt, yo, yh, yi, ya + 1, ye, yp, ys, yc, nw, gn, bg, wd, tk, tv, dg, sk, sv, vk, vv, hw, fr, og, lf, st, la, fm, fc, gr, wi, mn, qx, qy, ss, cl, cp, nx, ny)) : wY_compute_216 post op x3 x4 x5 x6 yt yo yh yi ya ye yp ys yc nw gn bg wd tk tv dg sk sv vk vv hw fr og lf st la fm fc gr wi mn qx qy ss cl cp nx ny := br_f h9 (br_f h10 (y_c235 h9 h10 h11 h12 h13 k))
theorem y_c187 {post : SY → Prop} {op : Int32} {x3 x4 x5 x6 : Int32} (h7 : op ≠ 7) (h9 : op ≠ 9) (h10 : op ≠ 10) (h11 : op ≠ 11) (h12 : op ≠ 12) (h13 : op ≠ 13) (k : post (yt, yo, yh, yi, ya + 1, ye, yp, ys, yc, nw, gn, bg, wd, tk, tv, dg, sk, sv, vk, vv, hw, fr, og, lf, st, la, fm, fc, gr, wi, mn, qx, qy, ss, cl, cp, nx, ny)) : wY_compute_187 post op x3 x4 x5 x6 yt yo yh yi ya ye yp ys yc nw gn bg wd tk tv dg sk sv vk vv hw fr og lf st la fm fc gr wi mn qx qy ss cl cp nx ny := br_f h7 (y_c216 h9 h10 h11 h12 h13 k)
theorem y_c165 {post : SY → Prop} {op : Int32} {x3 x4 x5 x6 : Int32} (h6 : op ≠ 6) (h7 : op ≠ 7) (h9 : op ≠ 9) (h10 : op ≠ 10) (h11 : op ≠ 11) (h12 : op ≠ 12) (h13 : op ≠ 13) (k : post (yt, yo, yh, yi, ya + 1, ye, yp, ys, yc, nw, gn, bg, wd, tk, tv, dg, sk, sv, vk, vv, hw, fr, og, lf, st, la, fm, fc, gr, wi, mn, qx, qy, ss, cl, cp, nx, ny)) : wY_compute_165 post op x3 x4 x5 x6 yt yo yh yi ya ye yp ys yc nw gn bg wd tk tv dg sk sv vk vv hw fr og lf st la fm fc gr wi mn qx qy ss cl cp nx ny := br_f h6 (y_c187 h7 h9 h10 h11 h12 h13 k)
theorem y_c153 {post : SY → Prop} {op : Int32} {x3 x4 x5 x6 : Int32} (h5 : op ≠ 5) (h6 : op ≠ 6) (h7 : op ≠ 7) (h9 : op ≠ 9) (h10 : op ≠ 10) (h11 : op ≠ 11) (h12 : op ≠ 12) (h13 : op ≠ 13) (k : post (yt, yo, yh, yi, ya + 1, ye, yp, ys, yc, nw, gn, bg, wd, tk, tv, dg, sk, sv, vk, vv, hw, fr, og, lf, st, la, fm, fc, gr, wi, mn, qx, qy, ss, cl, cp, nx, ny)) : wY_compute_153 post op x3 x4 x5 x6 yt yo yh yi ya ye yp ys yc nw gn bg wd tk tv dg sk sv vk vv hw fr og lf st la fm fc gr wi mn qx qy ss cl cp nx ny := br_f h5 (y_c165 h6 h7 h9 h10 h11 h12 h13 k)
theorem y_c139 {post : SY → Prop} {op : Int32} {x3 x4 x5 x6 : Int32} (h4 : op ≠ 4) (h5 : op ≠ 5) (h6 : op ≠ 6) (h7 : op ≠ 7) (h9 : op ≠ 9) (h10 : op ≠ 10) (h11 : op ≠ 11) (h12 : op ≠ 12) (h13 : op ≠ 13) (k : post (yt, yo, yh, yi, ya + 1, ye, yp, ys, yc, nw, gn, bg, wd, tk, tv, dg, sk, sv, vk, vv, hw, fr, og, lf, st, la, fm, fc, gr, wi, mn, qx, qy, ss, cl, cp, nx, ny)) : wY_compute_139 post op x3 x4 x5 x6 yt yo yh yi ya ye yp ys yc nw gn bg wd tk tv dg sk sv vk vv hw fr og lf st la fm fc gr wi mn qx qy ss cl cp nx ny := br_f h4 (y_c153 h5 h6 h7 h9 h10 h11 h12 h13 k)
theorem y_c125 {post : SY → Prop} {op : Int32} {x3 x4 x5 x6 : Int32} (h3 : op ≠ 3) (h4 : op ≠ 4) (h5 : op ≠ 5) (h6 : op ≠ 6) (h7 : op ≠ 7) (h9 : op ≠ 9) (h10 : op ≠ 10) (h11 : op ≠ 11) (h12 : op ≠ 12) (h13 : op ≠ 13) (k : post (yt, yo, yh, yi, ya + 1, ye, yp, ys, yc, nw, gn, bg, wd, tk, tv, dg, sk, sv, vk, vv, hw, fr, og, lf, st, la, fm, fc, gr, wi, mn, qx, qy, ss, cl, cp, nx, ny)) : wY_compute_125 post op x3 x4 x5 x6 yt yo yh yi ya ye yp ys yc nw gn bg wd tk tv dg sk sv vk vv hw fr og lf st la fm fc gr wi mn qx qy ss cl cp nx ny := br_f h3 (y_c139 h4 h5 h6 h7 h9 h10 h11 h12 h13 k)
theorem y_c111 {post : SY → Prop} {op : Int32} {x3 x4 x5 x6 : Int32} (h2 : op ≠ 2) (h3 : op ≠ 3) (h4 : op ≠ 4) (h5 : op ≠ 5) (h6 : op ≠ 6) (h7 : op ≠ 7) (h9 : op ≠ 9) (h10 : op ≠ 10) (h11 : op ≠ 11) (h12 : op ≠ 12) (h13 : op ≠ 13) (k : post (yt, yo, yh, yi, ya + 1, ye, yp, ys, yc, nw, gn, bg, wd, tk, tv, dg, sk, sv, vk, vv, hw, fr, og, lf, st, la, fm, fc, gr, wi, mn, qx, qy, ss, cl, cp, nx, ny)) : wY_compute_111 post op x3 x4 x5 x6 yt yo yh yi ya ye yp ys yc nw gn bg wd tk tv dg sk sv vk vv hw fr og lf st la fm fc gr wi mn qx qy ss cl cp nx ny := br_f h2 (y_c125 h3 h4 h5 h6 h7 h9 h10 h11 h12 h13 k)
theorem y_c97 {post : SY → Prop} {op : Int32} {x3 x4 x5 x6 : Int32} (h1 : op ≠ 1) (h2 : op ≠ 2) (h3 : op ≠ 3) (h4 : op ≠ 4) (h5 : op ≠ 5) (h6 : op ≠ 6) (h7 : op ≠ 7) (h9 : op ≠ 9) (h10 : op ≠ 10) (h11 : op ≠ 11) (h12 : op ≠ 12) (h13 : op ≠ 13) (k : post (yt, yo, yh, yi, ya + 1, ye, yp, ys, yc, nw, gn, bg, wd, tk, tv, dg, sk, sv, vk, vv, hw, fr, og, lf, st, la, fm, fc, gr, wi, mn, qx, qy, ss, cl, cp, nx, ny)) : wY_compute_97 post op x3 x4 x5 x6 yt yo yh yi ya ye yp ys yc nw gn bg wd tk tv dg sk sv vk vv hw fr og lf st la fm fc gr wi mn qx qy ss cl cp nx ny := br_f h1 (y_c111 h2 h3 h4 h5 h6 h7 h9 h10 h11 h12 h13 k)
/-- two operands -/
theorem y_cmp2 {post : SY → Prop} {op h : Nat} (hop : op < 45) (hn : ztk op = 2) (hz : 2 ≤ h) (hh : h ≤ 24) (hs : yh = nI h)
    (k : wY_compute_72 post (nI op) 2 (sv (h - 1 - 0)) (sv (h - 1 - 1)) (if sk (h - 1 - 0) = 1 then 1 else 0) (if sk (h - 1 - 1) = 1 then 1 else 0) yt yo yh yi ya ye yp ys yc nw gn bg wd tk tv dg sk sv vk vv hw fr og lf st la fm fc gr wi mn qx qy ss cl cp nx ny) : wpY_compute post (yt, yo, yh, yi, ya, ye, yp, ys, yc, nw, gn, bg, wd, tk, tv, dg, sk, sv, vk, vv, hw, fr, og, lf, st, la, fm, fc, gr, wi, mn, qx, qy, ss, cl, cp, nx, ny) (nI op) := by
  unfold wpY_compute
  refine y_takes hop ?_
  rw [hn]
  refine br_f (by decide) (y_top (j := 0) hs rfl hh (by omega) (br_f (by decide) (y_top (j := 1) hs rfl hh (by omega) (br_f (by decide) (y_isProc (j := 0) hs rfl hh (by omega) ?_)))))
  have go : ∀ z : Int32, z = (if sk (h - 1 - 0) = 1 then 1 else 0) → wY_compute_52 post (nI op) 2 (sv (h - 1 - 0)) (sv (h - 1 - 1)) z yt yo yh yi ya ye yp ys yc nw gn bg wd tk tv dg sk sv vk vv hw fr og lf st la fm fc gr wi mn qx qy ss cl cp nx ny := by
    intro z hz'
    subst hz'
    refine br_f (by decide) (y_isProc (j := 1) hs rfl hh (by omega) ?_)
    by_cases e : sk (h - 1 - 1) = 1
    · rw [if_pos e] at k ⊢; exact br_f (by decide) k
    · rw [if_neg e] at k ⊢; exact br_t rfl k
  by_cases e : sk (h - 1 - 0) = 1
  · rw [if_pos e] at go ⊢; exact br_f (by decide) (go 1 rfl)
  · rw [if_neg e] at go ⊢; exact br_t rfl (go 0 rfl)
/-- one operand -/
theorem y_cmp1 {post : SY → Prop} {op h : Nat} (hop : op < 45) (hn : ztk op = 1) (hz : 1 ≤ h) (hh : h ≤ 24) (hs : yh = nI h)
    (k : wY_compute_72 post (nI op) 1 (sv (h - 1 - 0)) 0 (if sk (h - 1 - 0) = 1 then 1 else 0) 0 yt yo yh yi ya ye yp ys yc nw gn bg wd tk tv dg sk sv vk vv hw fr og lf st la fm fc gr wi mn qx qy ss cl cp nx ny) : wpY_compute post (yt, yo, yh, yi, ya, ye, yp, ys, yc, nw, gn, bg, wd, tk, tv, dg, sk, sv, vk, vv, hw, fr, og, lf, st, la, fm, fc, gr, wi, mn, qx, qy, ss, cl, cp, nx, ny) (nI op) := by
  unfold wpY_compute
  refine y_takes hop ?_
  rw [hn]
  refine br_f (by decide) (y_top (j := 0) hs rfl hh (by omega) (br_t (by decide) (br_f (by decide) (y_isProc (j := 0) hs rfl hh (by omega) ?_))))
  by_cases e : sk (h - 1 - 0) = 1
  · rw [if_pos e] at k ⊢; exact br_f (by decide) (br_t (by decide) k)
  · rw [if_neg e] at k ⊢; exact br_t rfl (br_t (by decide) k)
theorem y_cmp0 {post : SY → Prop} {op : Nat} (hop : op < 45) (hn : ztk op = 0) (k : wY_compute_72 post (nI op) 0 0 0 0 0 yt yo yh yi ya ye yp ys yc nw gn bg wd tk tv dg sk sv vk vv hw fr og lf st la fm fc gr wi mn qx qy ss cl cp nx ny) : wpY_compute post (yt, yo, yh, yi, ya, ye, yp, ys, yc, nw, gn, bg, wd, tk, tv, dg, sk, sv, vk, vv, hw, fr, og, lf, st, la, fm, fc, gr, wi, mn, qx, qy, ss, cl, cp, nx, ny) (nI op) := by
  unfold wpY_compute
  refine y_takes hop ?_
  rw [hn]
  exact br_t (by decide) (br_t (by decide) (br_t (by decide) (br_t (by decide) k)))
theorem y_c212 {post : SY → Prop} {op x3 x4 x5 x6 : Int32} {h : Nat} (hs : yh = nI h) (hh : h < 24) (k : wY_compute_216 post op x3 x4 x5 x6 yt yo (nI (h + 1)) yi ya ye yp ys yc nw gn bg wd tk tv dg (upd sk h 0) (upd sv h 0) vk vv hw fr og lf st la fm fc gr wi mn qx qy ss cl cp nx ny) : wY_compute_212 post op x3 x4 x5 x6 0 yt yo yh yi ya ye yp ys yc nw gn bg wd tk tv dg sk sv vk vv hw fr og lf st la fm fc gr wi mn qx qy ss cl cp nx ny := by
  unfold wY_compute_212 wY_compute_213
  exact y_put hs hh k
theorem st_add {t h n a c s pc : Nat} {PX : Int32 → SX → Prop} (hR : ZR t h n a c mA mB oX oY gY wD pC tk tv cb sk sv vk vv bp br bh bn bs bl px py pm cr sn sx sy sm sp hw fr og lf st la fm fc gr wi mn qx qy ss cl cp) (ha : a < t) (hk : tk a = 1) (hv : tv a = nI 0) (hpc : pC = nI pc) (hp48 : pc ≤ 48) (hE : ZE1 0 h sk pc = 0)
    (H : ∀ (e : Int32) (u' : SX) (v' : SY), ZStep a (s + 1) e u' v' → (∀ PY : SY → Prop, PY v' → wpY_execute PY (nI t, 0, nI h, nI n, nI a, 0, -1, nI (s + 1), nI c, nw, gn, bg, wd, tk, tv, dg, sk, sv, vk, vv, hw, fr, og, lf, st, la, fm, fc, gr, wi, mn, qx, qy, ss, cl, cp, nx, ny)) → PX e u') : wpX_execute PX (nI t, 0, nI a, nI s, -1, nI h, nI n, mA, mB, oX, oY, gY, wD, pC, nI c, tk, tv, cb, sk, sv, vk, vv, bp, br, bh, bn, bs, bl, px, py, pm, cr, sn, sx, sy, sm, sp, dg) (nI a) := by
  have hR' := hR
  obtain ⟨hT, hS, hV, hF, hPO, hG, hSV⟩ := hR
  have ht := hT.1
  have hh := hS.1
  have hmn := zg_mn hG hpc
  have hi : vp_in (nI a) 100 := vp_in_nI (by omega) (by omega)
  have e : (nI a).toNatClampNeg = a := zc_i (by omega)
  have ek : tk (nI a).toNatClampNeg = 1 := by rw [e]; exact hk
  have ev : tv (nI a).toNatClampNeg = nI 0 := by rw [e]; exact hv
  have hpn := po_next hPO ha (by rw [hk]; decide) (by rw [hk]; decide)
  obtain ⟨z1, z2, z3, z4⟩ := ze_0 hE
  have z1 : 2 ≤ h := z1
  refine nm_r (nI_1 s) (nm_r (nI_1 a) ⟨hi, br_t ek ⟨hi, nm_r ev (x_oe0 (by decide) hh hp48 rfl hpc hE (br_t rfl (br_f (by decide) ?_)))⟩⟩)
  unfold wpX_calculate
  refine x_operand (j := 1) rfl rfl hh (by omega) (x_operand (j := 0) rfl rfl hh (by omega) (br_f (by decide) (br_f (by decide) (br_t rfl (nm_e (x_calc159 (n := 2) (by decide) rfl z1 (by omega) rfl (H 0 _ (nI t, 0, nI (h - 2 + 1), nI n, nI a + 1, 0, -1, nI (s + 1), nI c, 0, 0, 0, 0, tk, tv, dg, upd sk (h - 2) 0, upd sv (h - 2) (sv (h - 1 - 1) + sv (h - 1 - 0)), vk, vv, hw, fr, og, lf, st, la, fm, fc, gr, wi, mn, qx, qy, ss, cl, cp, nx, ny) (zs_ok ⟨hT, zst_put (zst_le hS (by omega)) (by omega) zv_0, hV, hF, hpn, hG, hSV⟩ rfl (nI_1 a) rfl rfl rfl rfl rfl rfl) (fun PY hp => ?_))))))))
  refine ⟨hi, nm_r ev ⟨hi, nm_r ek (br_f (by decide) (br_f (by decide) (br_f (by decide) (br_t rfl ?_))))⟩⟩
  unfold wY_execute_245 wpY_operate
  refine y_check (by decide) hh hp48 (zst_k hS) rfl hmn (fun z => absurd hE z) (fun _ z => absurd z (by decide)) (fun _ _ _ => y_ck87 rfl hh z1 hmn hp48 (by decide) (by decide) (by decide) (by decide) (by decide) (by decide) (by decide) (by decide) (by decide) (by decide) (by decide) (y_ck335n (by decide) (by decide) (by decide) (by decide) (by decide) (by decide) (br_t rfl ?_)))
  exact br_f (by decide) (y_cmp2 (by decide) rfl z1 hh rfl (nm_r (pk_sub (b := 2) z1) (br_t rfl (y_put rfl (by omega) (y_c97 (by decide) (by decide) (by decide) (by decide) (by decide) (by decide) (by decide) (by decide) (by decide) (by decide) (by decide) (by decide) hp)))))
theorem st_sub {t h n a c s pc : Nat} {PX : Int32 → SX → Prop} (hR : ZR t h n a c mA mB oX oY gY wD pC tk tv cb sk sv vk vv bp br bh bn bs bl px py pm cr sn sx sy sm sp hw fr og lf st la fm fc gr wi mn qx qy ss cl cp) (ha : a < t) (hk : tk a = 1) (hv : tv a = nI 1) (hpc : pC = nI pc) (hp48 : pc ≤ 48) (hE : ZE1 1 h sk pc = 0)
    (H : ∀ (e : Int32) (u' : SX) (v' : SY), ZStep a (s + 1) e u' v' → (∀ PY : SY → Prop, PY v' → wpY_execute PY (nI t, 0, nI h, nI n, nI a, 0, -1, nI (s + 1), nI c, nw, gn, bg, wd, tk, tv, dg, sk, sv, vk, vv, hw, fr, og, lf, st, la, fm, fc, gr, wi, mn, qx, qy, ss, cl, cp, nx, ny)) → PX e u') : wpX_execute PX (nI t, 0, nI a, nI s, -1, nI h, nI n, mA, mB, oX, oY, gY, wD, pC, nI c, tk, tv, cb, sk, sv, vk, vv, bp, br, bh, bn, bs, bl, px, py, pm, cr, sn, sx, sy, sm, sp, dg) (nI a) := by
  have hR' := hR
  obtain ⟨hT, hS, hV, hF, hPO, hG, hSV⟩ := hR
  have ht := hT.1
  have hh := hS.1
  have hmn := zg_mn hG hpc
  have hi : vp_in (nI a) 100 := vp_in_nI (by omega) (by omega)
  have e : (nI a).toNatClampNeg = a := zc_i (by omega)
  have ek : tk (nI a).toNatClampNeg = 1 := by rw [e]; exact hk
  have ev : tv (nI a).toNatClampNeg = nI 1 := by rw [e]; exact hv
  have hpn := po_next hPO ha (by rw [hk]; decide) (by rw [hk]; decide)
  obtain ⟨z1, z2, z3, z4⟩ := ze_0 hE
  have z1 : 2 ≤ h := z1
  refine nm_r (nI_1 s) (nm_r (nI_1 a) ⟨hi, br_t ek ⟨hi, nm_r ev (x_oe0 (by decide) hh hp48 rfl hpc hE (br_t rfl (br_f (by decide) ?_)))⟩⟩)
  unfold wpX_calculate
  refine x_operand (j := 1) rfl rfl hh (by omega) (x_operand (j := 0) rfl rfl hh (by omega) (br_f (by decide) (br_f (by decide) (br_f (by decide) (br_t rfl (nm_e (x_calc159 (n := 2) (by decide) rfl z1 (by omega) rfl (H 0 _ (nI t, 0, nI (h - 2 + 1), nI n, nI a + 1, 0, -1, nI (s + 1), nI c, 0, 0, 0, 0, tk, tv, dg, upd sk (h - 2) 0, upd sv (h - 2) (sv (h - 1 - 1) - sv (h - 1 - 0)), vk, vv, hw, fr, og, lf, st, la, fm, fc, gr, wi, mn, qx, qy, ss, cl, cp, nx, ny) (zs_ok ⟨hT, zst_put (zst_le hS (by omega)) (by omega) zv_0, hV, hF, hpn, hG, hSV⟩ rfl (nI_1 a) rfl rfl rfl rfl rfl rfl) (fun PY hp => ?_)))))))))
  refine ⟨hi, nm_r ev ⟨hi, nm_r ek (br_f (by decide) (br_f (by decide) (br_f (by decide) (br_t rfl ?_))))⟩⟩
  unfold wY_execute_245 wpY_operate
  refine y_check (by decide) hh hp48 (zst_k hS) rfl hmn (fun z => absurd hE z) (fun _ z => absurd z (by decide)) (fun _ _ _ => y_ck87 rfl hh z1 hmn hp48 (by decide) (by decide) (by decide) (by decide) (by decide) (by decide) (by decide) (by decide) (by decide) (by decide) (by decide) (y_ck335n (by decide) (by decide) (by decide) (by decide) (by decide) (by decide) (br_t rfl ?_)))
  exact br_f (by decide) (y_cmp2 (by decide) rfl z1 hh rfl (nm_r (pk_sub (b := 2) z1) (br_f (by decide) (br_t rfl (y_put rfl (by omega) (y_c111 (by decide) (by decide) (by decide) (by decide) (by decide) (by decide) (by decide) (by decide) (by decide) (by decide) (by decide) hp))))))
theorem st_mul {t h n a c s pc : Nat} {PX : Int32 → SX → Prop} (hR : ZR t h n a c mA mB oX oY gY wD pC tk tv cb sk sv vk vv bp br bh bn bs bl px py pm cr sn sx sy sm sp hw fr og lf st la fm fc gr wi mn qx qy ss cl cp) (ha : a < t) (hk : tk a = 1) (hv : tv a = nI 2) (hpc : pC = nI pc) (hp48 : pc ≤ 48) (hE : ZE1 2 h sk pc = 0)
    (H : ∀ (e : Int32) (u' : SX) (v' : SY), ZStep a (s + 1) e u' v' → (∀ PY : SY → Prop, PY v' → wpY_execute PY (nI t, 0, nI h, nI n, nI a, 0, -1, nI (s + 1), nI c, nw, gn, bg, wd, tk, tv, dg, sk, sv, vk, vv, hw, fr, og, lf, st, la, fm, fc, gr, wi, mn, qx, qy, ss, cl, cp, nx, ny)) → PX e u') : wpX_execute PX (nI t, 0, nI a, nI s, -1, nI h, nI n, mA, mB, oX, oY, gY, wD, pC, nI c, tk, tv, cb, sk, sv, vk, vv, bp, br, bh, bn, bs, bl, px, py, pm, cr, sn, sx, sy, sm, sp, dg) (nI a) := by
  have hR' := hR
  obtain ⟨hT, hS, hV, hF, hPO, hG, hSV⟩ := hR
  have ht := hT.1
  have hh := hS.1
  have hmn := zg_mn hG hpc
  have hi : vp_in (nI a) 100 := vp_in_nI (by omega) (by omega)
  have e : (nI a).toNatClampNeg = a := zc_i (by omega)
  have ek : tk (nI a).toNatClampNeg = 1 := by rw [e]; exact hk
  have ev : tv (nI a).toNatClampNeg = nI 2 := by rw [e]; exact hv
  have hpn := po_next hPO ha (by rw [hk]; decide) (by rw [hk]; decide)
  obtain ⟨z1, z2, z3, z4⟩ := ze_0 hE
  have z1 : 2 ≤ h := z1
  refine nm_r (nI_1 s) (nm_r (nI_1 a) ⟨hi, br_t ek ⟨hi, nm_r ev (x_oe0 (by decide) hh hp48 rfl hpc hE (br_t rfl (br_f (by decide) ?_)))⟩⟩)
  unfold wpX_calculate
  refine x_operand (j := 1) rfl rfl hh (by omega) (x_operand (j := 0) rfl rfl hh (by omega) (br_f (by decide) (br_f (by decide) (br_f (by decide) (br_f (by decide) (br_t rfl (nm_e (x_calc159 (n := 2) (by decide) rfl z1 (by omega) rfl (H 0 _ (nI t, 0, nI (h - 2 + 1), nI n, nI a + 1, 0, -1, nI (s + 1), nI c, 0, 0, 0, 0, tk, tv, dg, upd sk (h - 2) 0, upd sv (h - 2) (sv (h - 1 - 1) * sv (h - 1 - 0)), vk, vv, hw, fr, og, lf, st, la, fm, fc, gr, wi, mn, qx, qy, ss, cl, cp, nx, ny) (zs_ok ⟨hT, zst_put (zst_le hS (by omega)) (by omega) zv_0, hV, hF, hpn, hG, hSV⟩ rfl (nI_1 a) rfl rfl rfl rfl rfl rfl) (fun PY hp => ?_))))))))))
  refine ⟨hi, nm_r ev ⟨hi, nm_r ek (br_f (by decide) (br_f (by decide) (br_f (by decide) (br_t rfl ?_))))⟩⟩
  unfold wY_execute_245 wpY_operate
  refine y_check (by decide) hh hp48 (zst_k hS) rfl hmn (fun z => absurd hE z) (fun _ z => absurd z (by decide)) (fun _ _ _ => y_ck87 rfl hh z1 hmn hp48 (by decide) (by decide) (by decide) (by decide) (by decide) (by decide) (by decide) (by decide) (by decide) (by decide) (by decide) (y_ck335n (by decide) (by decide) (by decide) (by decide) (by decide) (by decide) (br_t rfl ?_)))
  exact br_f (by decide) (y_cmp2 (by decide) rfl z1 hh rfl (nm_r (pk_sub (b := 2) z1) (br_f (by decide) (br_f (by decide) (br_t rfl (y_put rfl (by omega) (y_c125 (by decide) (by decide) (by decide) (by decide) (by decide) (by decide) (by decide) (by decide) (by decide) (by decide) hp)))))))
theorem st_neg {t h n a c s pc : Nat} {PX : Int32 → SX → Prop} (hR : ZR t h n a c mA mB oX oY gY wD pC tk tv cb sk sv vk vv bp br bh bn bs bl px py pm cr sn sx sy sm sp hw fr og lf st la fm fc gr wi mn qx qy ss cl cp) (ha : a < t) (hk : tk a = 1) (hv : tv a = nI 5) (hpc : pC = nI pc) (hp48 : pc ≤ 48) (hE : ZE1 5 h sk pc = 0)
    (H : ∀ (e : Int32) (u' : SX) (v' : SY), ZStep a (s + 1) e u' v' → (∀ PY : SY → Prop, PY v' → wpY_execute PY (nI t, 0, nI h, nI n, nI a, 0, -1, nI (s + 1), nI c, nw, gn, bg, wd, tk, tv, dg, sk, sv, vk, vv, hw, fr, og, lf, st, la, fm, fc, gr, wi, mn, qx, qy, ss, cl, cp, nx, ny)) → PX e u') : wpX_execute PX (nI t, 0, nI a, nI s, -1, nI h, nI n, mA, mB, oX, oY, gY, wD, pC, nI c, tk, tv, cb, sk, sv, vk, vv, bp, br, bh, bn, bs, bl, px, py, pm, cr, sn, sx, sy, sm, sp, dg) (nI a) := by
  have hR' := hR
  obtain ⟨hT, hS, hV, hF, hPO, hG, hSV⟩ := hR
  have ht := hT.1
  have hh := hS.1
  have hmn := zg_mn hG hpc
  have hi : vp_in (nI a) 100 := vp_in_nI (by omega) (by omega)
  have e : (nI a).toNatClampNeg = a := zc_i (by omega)
  have ek : tk (nI a).toNatClampNeg = 1 := by rw [e]; exact hk
  have ev : tv (nI a).toNatClampNeg = nI 5 := by rw [e]; exact hv
  have hpn := po_next hPO ha (by rw [hk]; decide) (by rw [hk]; decide)
  obtain ⟨z1, z2, z3, z4⟩ := ze_0 hE
  have z1 : 1 ≤ h := z1
  refine nm_r (nI_1 s) (nm_r (nI_1 a) ⟨hi, br_t ek ⟨hi, nm_r ev (x_oe0 (by decide) hh hp48 rfl hpc hE (br_t rfl (br_f (by decide) ?_)))⟩⟩)
  unfold wpX_calculate
  refine x_operandA (j := 1) rfl rfl hh (by omega) (fun _ => x_operand (j := 0) rfl rfl hh (by omega) (br_f (by decide) (br_f (by decide) (br_f (by decide) (br_f (by decide) (br_f (by decide) (br_f (by decide) (br_f (by decide) (br_t rfl (nm_e (x_calc159 (n := 1) (by decide) rfl z1 (by omega) rfl (H 0 _ (nI t, 0, nI (h - 1 + 1), nI n, nI a + 1, 0, -1, nI (s + 1), nI c, 0, 0, 0, 0, tk, tv, dg, upd sk (h - 1) 0, upd sv (h - 1) (-sv (h - 1 - 0)), vk, vv, hw, fr, og, lf, st, la, fm, fc, gr, wi, mn, qx, qy, ss, cl, cp, nx, ny) (zs_ok ⟨hT, zst_put (zst_le hS (by omega)) (by omega) zv_0, hV, hF, hpn, hG, hSV⟩ rfl (nI_1 a) rfl rfl rfl rfl rfl rfl) (fun PY hp => ?_)))))))))))))
  refine ⟨hi, nm_r ev ⟨hi, nm_r ek (br_f (by decide) (br_f (by decide) (br_f (by decide) (br_t rfl ?_))))⟩⟩
  unfold wY_execute_245 wpY_operate
  refine y_check (by decide) hh hp48 (zst_k hS) rfl hmn (fun z => absurd hE z) (fun _ z => absurd z (by decide)) (fun _ _ _ => y_ck87 rfl hh z1 hmn hp48 (by decide) (by decide) (by decide) (by decide) (by decide) (by decide) (by decide) (by decide) (by decide) (by decide) (by decide) (y_ck335n (by decide) (by decide) (by decide) (by decide) (by decide) (by decide) (br_t rfl ?_)))
  exact br_f (by decide) (y_cmp1 (by decide) rfl z1 hh rfl (nm_r (pk_sub (b := 1) z1) (br_f (by decide) (br_f (by decide) (br_f (by decide) (br_f (by decide) (br_f (by decide) (br_t rfl (y_put rfl (by omega) (y_c165 (by decide) (by decide) (by decide) (by decide) (by decide) (by decide) (by decide) hp))))))))))
theorem st_div {t h n a c s pc : Nat} {PX : Int32 → SX → Prop} (hR : ZR t h n a c mA mB oX oY gY wD pC tk tv cb sk sv vk vv bp br bh bn bs bl px py pm cr sn sx sy sm sp hw fr og lf st la fm fc gr wi mn qx qy ss cl cp) (ha : a < t) (hk : tk a = 1) (hv : tv a = nI 3) (hpc : pC = nI pc) (hp48 : pc ≤ 48) (hE : ZE1 3 h sk pc = 0)
    (H : ∀ (e : Int32) (u' : SX) (v' : SY), ZStep a (s + 1) e u' v' → (∀ PY : SY → Prop, PY v' → wpY_execute PY (nI t, 0, nI h, nI n, nI a, 0, -1, nI (s + 1), nI c, nw, gn, bg, wd, tk, tv, dg, sk, sv, vk, vv, hw, fr, og, lf, st, la, fm, fc, gr, wi, mn, qx, qy, ss, cl, cp, nx, ny)) → PX e u') : wpX_execute PX (nI t, 0, nI a, nI s, -1, nI h, nI n, mA, mB, oX, oY, gY, wD, pC, nI c, tk, tv, cb, sk, sv, vk, vv, bp, br, bh, bn, bs, bl, px, py, pm, cr, sn, sx, sy, sm, sp, dg) (nI a) := by
  have hR' := hR
  obtain ⟨hT, hS, hV, hF, hPO, hG, hSV⟩ := hR
  have ht := hT.1
  have hh := hS.1
  have hmn := zg_mn hG hpc
  have hi : vp_in (nI a) 100 := vp_in_nI (by omega) (by omega)
  have e : (nI a).toNatClampNeg = a := zc_i (by omega)
  have ek : tk (nI a).toNatClampNeg = 1 := by rw [e]; exact hk
  have ev : tv (nI a).toNatClampNeg = nI 3 := by rw [e]; exact hv
  have hpn := po_next hPO ha (by rw [hk]; decide) (by rw [hk]; decide)
  obtain ⟨z1, z2, z3, z4⟩ := ze_0 hE
  have z1 : 2 ≤ h := z1
  refine nm_r (nI_1 s) (nm_r (nI_1 a) ⟨hi, br_t ek ⟨hi, nm_r ev (x_oe0 (by decide) hh hp48 rfl hpc hE (br_t rfl (br_f (by decide) ?_)))⟩⟩)
  unfold wpX_calculate
  refine x_operand (j := 1) rfl rfl hh (by omega) (x_operand (j := 0) rfl rfl hh (by omega) (br_f (by decide) (br_f (by decide) (br_f (by decide) (br_f (by decide) (br_f (by decide) (br_t rfl ?_))))))) 
  by_cases h0 : sv (h - 1 - 0) = 0
  · refine br_t h0 (H 4 _ (nI t, 0, nI h, nI n, nI a, 4, -1, nI (s + 1), nI c, nw, gn, bg, wd, tk, tv, dg, sk, sv, vk, vv, hw, fr, og, lf, st, la, fm, fc, gr, wi, mn, qx, qy, ss, cl, cp, nx, ny) (zs_er hR' (by decide)) (fun PY hp => ?_))
    refine ⟨hi, nm_r ev ⟨hi, nm_r ek (br_f (by decide) (br_f (by decide) (br_f (by decide) (br_t rfl ?_))))⟩⟩
    unfold wY_execute_245 wpY_operate
    refine y_check (by decide) hh hp48 (zst_k hS) rfl hmn (fun z => absurd hE z) (fun _ _ => ?_) (fun _ z z' => absurd rfl (by first | exact z | exact z'))
    unfold wY_check_77
    exact y_top (j := 0) rfl rfl hh (by omega) (br_t h0 (br_f (by decide) hp))
  · refine br_f h0 ⟨h0, nm_e (x_calc159 (n := 2) (by decide) rfl z1 (by omega) rfl (H 0 _ (nI t, 0, nI (h - 2 + 1), nI n, nI a + 1, 0, -1, nI (s + 1), nI c, 0, 0, 0, 0, tk, tv, dg, upd sk (h - 2) 0, upd sv (h - 2) (sv (h - 1 - 1) / sv (h - 1 - 0)), vk, vv, hw, fr, og, lf, st, la, fm, fc, gr, wi, mn, qx, qy, ss, cl, cp, nx, ny) (zs_ok ⟨hT, zst_put (zst_le hS (by omega)) (by omega) zv_0, hV, hF, hpn, hG, hSV⟩ rfl (nI_1 a) rfl rfl rfl rfl rfl rfl) (fun PY hp => ?_)))⟩
    refine ⟨hi, nm_r ev ⟨hi, nm_r ek (br_f (by decide) (br_f (by decide) (br_f (by decide) (br_t rfl ?_))))⟩⟩
    unfold wY_execute_245 wpY_operate
    refine y_check (by decide) hh hp48 (zst_k hS) rfl hmn (fun z => absurd hE z) (fun _ _ => ?_) (fun _ z z' => absurd rfl (by first | exact z | exact z'))
    unfold wY_check_77
    refine y_top (j := 0) rfl rfl hh (by omega) (br_f h0 (y_ck87 rfl hh z1 hmn hp48 (by decide) (by decide) (by decide) (by decide) (by decide) (by decide) (by decide) (by decide) (by decide) (by decide) (by decide) (y_ck335n (by decide) (by decide) (by decide) (by decide) (by decide) (by decide) (br_t rfl ?_))))
    exact br_f (by decide) (y_cmp2 (by decide) rfl z1 hh rfl (nm_r (pk_sub (b := 2) z1) (br_f (by decide) (br_f (by decide) (br_f (by decide) (br_t rfl ⟨h0, y_put rfl (by omega) (y_c139 (by decide) (by decide) (by decide) (by decide) (by decide) (by decide) (by decide) (by decide) (by decide) hp)⟩))))))
theorem st_mod {t h n a c s pc : Nat} {PX : Int32 → SX → Prop} (hR : ZR t h n a c mA mB oX oY gY wD pC tk tv cb sk sv vk vv bp br bh bn bs bl px py pm cr sn sx sy sm sp hw fr og lf st la fm fc gr wi mn qx qy ss cl cp) (ha : a < t) (hk : tk a = 1) (hv : tv a = nI 4) (hpc : pC = nI pc) (hp48 : pc ≤ 48) (hE : ZE1 4 h sk pc = 0)
    (H : ∀ (e : Int32) (u' : SX) (v' : SY), ZStep a (s + 1) e u' v' → (∀ PY : SY → Prop, PY v' → wpY_execute PY (nI t, 0, nI h, nI n, nI a, 0, -1, nI (s + 1), nI c, nw, gn, bg, wd, tk, tv, dg, sk, sv, vk, vv, hw, fr, og, lf, st, la, fm, fc, gr, wi, mn, qx, qy, ss, cl, cp, nx, ny)) → PX e u') : wpX_execute PX (nI t, 0, nI a, nI s, -1, nI h, nI n, mA, mB, oX, oY, gY, wD, pC, nI c, tk, tv, cb, sk, sv, vk, vv, bp, br, bh, bn, bs, bl, px, py, pm, cr, sn, sx, sy, sm, sp, dg) (nI a) := by
  have hR' := hR
  obtain ⟨hT, hS, hV, hF, hPO, hG, hSV⟩ := hR
  have ht := hT.1
  have hh := hS.1
  have hmn := zg_mn hG hpc
  have hi : vp_in (nI a) 100 := vp_in_nI (by omega) (by omega)
  have e : (nI a).toNatClampNeg = a := zc_i (by omega)
  have ek : tk (nI a).toNatClampNeg = 1 := by rw [e]; exact hk
  have ev : tv (nI a).toNatClampNeg = nI 4 := by rw [e]; exact hv
  have hpn := po_next hPO ha (by rw [hk]; decide) (by rw [hk]; decide)
  obtain ⟨z1, z2, z3, z4⟩ := ze_0 hE
  have z1 : 2 ≤ h := z1
  refine nm_r (nI_1 s) (nm_r (nI_1 a) ⟨hi, br_t ek ⟨hi, nm_r ev (x_oe0 (by decide) hh hp48 rfl hpc hE (br_t rfl (br_f (by decide) ?_)))⟩⟩)
  unfold wpX_calculate
  refine x_operand (j := 1) rfl rfl hh (by omega) (x_operand (j := 0) rfl rfl hh (by omega) (br_f (by decide) (br_f (by decide) (br_f (by decide) (br_f (by decide) (br_f (by decide) (br_f (by decide) (br_t rfl ?_)))))))) 
  by_cases h0 : sv (h - 1 - 0) = 0
  · refine br_t h0 (H 4 _ (nI t, 0, nI h, nI n, nI a, 4, -1, nI (s + 1), nI c, nw, gn, bg, wd, tk, tv, dg, sk, sv, vk, vv, hw, fr, og, lf, st, la, fm, fc, gr, wi, mn, qx, qy, ss, cl, cp, nx, ny) (zs_er hR' (by decide)) (fun PY hp => ?_))
    refine ⟨hi, nm_r ev ⟨hi, nm_r ek (br_f (by decide) (br_f (by decide) (br_f (by decide) (br_t rfl ?_))))⟩⟩
    unfold wY_execute_245 wpY_operate
    refine y_check (by decide) hh hp48 (zst_k hS) rfl hmn (fun z => absurd hE z) (fun _ _ => ?_) (fun _ z z' => absurd rfl (by first | exact z | exact z'))
    unfold wY_check_77
    exact y_top (j := 0) rfl rfl hh (by omega) (br_t h0 (br_f (by decide) hp))
  · refine br_f h0 ⟨h0, nm_e (x_calc159 (n := 2) (by decide) rfl z1 (by omega) rfl (H 0 _ (nI t, 0, nI (h - 2 + 1), nI n, nI a + 1, 0, -1, nI (s + 1), nI c, 0, 0, 0, 0, tk, tv, dg, upd sk (h - 2) 0, upd sv (h - 2) (sv (h - 1 - 1) - sv (h - 1 - 1) / sv (h - 1 - 0) * sv (h - 1 - 0)), vk, vv, hw, fr, og, lf, st, la, fm, fc, gr, wi, mn, qx, qy, ss, cl, cp, nx, ny) (zs_ok ⟨hT, zst_put (zst_le hS (by omega)) (by omega) zv_0, hV, hF, hpn, hG, hSV⟩ rfl (nI_1 a) rfl rfl rfl rfl rfl rfl) (fun PY hp => ?_)))⟩
    refine ⟨hi, nm_r ev ⟨hi, nm_r ek (br_f (by decide) (br_f (by decide) (br_f (by decide) (br_t rfl ?_))))⟩⟩
    unfold wY_execute_245 wpY_operate
    refine y_check (by decide) hh hp48 (zst_k hS) rfl hmn (fun z => absurd hE z) (fun _ _ => ?_) (fun _ z z' => absurd rfl (by first | exact z | exact z'))
    unfold wY_check_77
    refine y_top (j := 0) rfl rfl hh (by omega) (br_f h0 (y_ck87 rfl hh z1 hmn hp48 (by decide) (by decide) (by decide) (by decide) (by decide) (by decide) (by decide) (by decide) (by decide) (by decide) (by decide) (y_ck335n (by decide) (by decide) (by decide) (by decide) (by decide) (by decide) (br_t rfl ?_))))
    exact br_f (by decide) (y_cmp2 (by decide) rfl z1 hh rfl (nm_r (pk_sub (b := 2) z1) (br_f (by decide) (br_f (by decide) (br_f (by decide) (br_f (by decide) (br_t rfl ⟨h0, y_put rfl (by omega) (y_c153 (by decide) (by decide) (by decide) (by decide) (by decide) (by decide) (by decide) (by decide) hp)⟩)))))))
theorem st_lt {t h n a c s pc : Nat} {PX : Int32 → SX → Prop} (hR : ZR t h n a c mA mB oX oY gY wD pC tk tv cb sk sv vk vv bp br bh bn bs bl px py pm cr sn sx sy sm sp hw fr og lf st la fm fc gr wi mn qx qy ss cl cp) (ha : a < t) (hk : tk a = 1) (hv : tv a = nI 6) (hpc : pC = nI pc) (hp48 : pc ≤ 48) (hE : ZE1 6 h sk pc = 0)
    (H : ∀ (e : Int32) (u' : SX) (v' : SY), ZStep a (s + 1) e u' v' → (∀ PY : SY → Prop, PY v' → wpY_execute PY (nI t, 0, nI h, nI n, nI a, 0, -1, nI (s + 1), nI c, nw, gn, bg, wd, tk, tv, dg, sk, sv, vk, vv, hw, fr, og, lf, st, la, fm, fc, gr, wi, mn, qx, qy, ss, cl, cp, nx, ny)) → PX e u') : wpX_execute PX (nI t, 0, nI a, nI s, -1, nI h, nI n, mA, mB, oX, oY, gY, wD, pC, nI c, tk, tv, cb, sk, sv, vk, vv, bp, br, bh, bn, bs, bl, px, py, pm, cr, sn, sx, sy, sm, sp, dg) (nI a) := by
  have hR' := hR
  obtain ⟨hT, hS, hV, hF, hPO, hG, hSV⟩ := hR
  have ht := hT.1
  have hh := hS.1
  have hmn := zg_mn hG hpc
  have hi : vp_in (nI a) 100 := vp_in_nI (by omega) (by omega)
  have e : (nI a).toNatClampNeg = a := zc_i (by omega)
  have ek : tk (nI a).toNatClampNeg = 1 := by rw [e]; exact hk
  have ev : tv (nI a).toNatClampNeg = nI 6 := by rw [e]; exact hv
  have hpn := po_next hPO ha (by rw [hk]; decide) (by rw [hk]; decide)
  obtain ⟨z1, z2, z3, z4⟩ := ze_0 hE
  have z1 : 2 ≤ h := z1
  refine nm_r (nI_1 s) (nm_r (nI_1 a) ⟨hi, br_t ek ⟨hi, nm_r ev (x_oe0 (by decide) hh hp48 rfl hpc hE (br_t rfl (br_f (by decide) ?_)))⟩⟩)
  unfold wpX_calculate
  refine x_operand (j := 1) rfl rfl hh (by omega) (x_operand (j := 0) rfl rfl hh (by omega) (br_f (by decide) (br_f (by decide) (br_f (by decide) (br_f (by decide) (br_f (by decide) (br_f (by decide) (br_f (by decide) (br_f (by decide) (br_t rfl ?_)))))))))) 
  by_cases hc : sv (h - 1 - 0) ≤ sv (h - 1 - 1)
  · refine br_t hc (x_calc159 (n := 2) (by decide) rfl z1 (by omega) rfl (H 0 _ (nI t, 0, nI (h - 2 + 1), nI n, nI a + 1, 0, -1, nI (s + 1), nI c, 0, 0, 0, 0, tk, tv, dg, upd sk (h - 2) 0, upd sv (h - 2) (0), vk, vv, hw, fr, og, lf, st, la, fm, fc, gr, wi, mn, qx, qy, ss, cl, cp, nx, ny) (zs_ok ⟨hT, zst_put (zst_le hS (by omega)) (by omega) zv_0, hV, hF, hpn, hG, hSV⟩ rfl (nI_1 a) rfl rfl rfl rfl rfl rfl) (fun PY hp => ?_)))
    refine ⟨hi, nm_r ev ⟨hi, nm_r ek (br_f (by decide) (br_f (by decide) (br_f (by decide) (br_t rfl ?_))))⟩⟩
    unfold wY_execute_245 wpY_operate
    refine y_check (by decide) hh hp48 (zst_k hS) rfl hmn (fun z => absurd hE z) (fun _ z => absurd z (by decide)) (fun _ _ _ => y_ck87 rfl hh z1 hmn hp48 (by decide) (by decide) (by decide) (by decide) (by decide) (by decide) (by decide) (by decide) (by decide) (by decide) (by decide) (y_ck335n (by decide) (by decide) (by decide) (by decide) (by decide) (by decide) (br_t rfl ?_)))
    exact br_f (by decide) (y_cmp2 (by decide) rfl z1 hh rfl (nm_r (pk_sub (b := 2) z1) (br_f (by decide) (br_f (by decide) (br_f (by decide) (br_f (by decide) (br_f (by decide) (br_f (by decide) (br_t rfl (br_t hc (y_put rfl (by omega) (y_c187 (by decide) (by decide) (by decide) (by decide) (by decide) (by decide) hp))))))))))))
  · refine br_f hc (x_calc159 (n := 2) (by decide) rfl z1 (by omega) rfl (H 0 _ (nI t, 0, nI (h - 2 + 1), nI n, nI a + 1, 0, -1, nI (s + 1), nI c, 0, 0, 0, 0, tk, tv, dg, upd sk (h - 2) 0, upd sv (h - 2) (1), vk, vv, hw, fr, og, lf, st, la, fm, fc, gr, wi, mn, qx, qy, ss, cl, cp, nx, ny) (zs_ok ⟨hT, zst_put (zst_le hS (by omega)) (by omega) zv_0, hV, hF, hpn, hG, hSV⟩ rfl (nI_1 a) rfl rfl rfl rfl rfl rfl) (fun PY hp => ?_)))
    refine ⟨hi, nm_r ev ⟨hi, nm_r ek (br_f (by decide) (br_f (by decide) (br_f (by decide) (br_t rfl ?_))))⟩⟩
    unfold wY_execute_245 wpY_operate
    refine y_check (by decide) hh hp48 (zst_k hS) rfl hmn (fun z => absurd hE z) (fun _ z => absurd z (by decide)) (fun _ _ _ => y_ck87 rfl hh z1 hmn hp48 (by decide) (by decide) (by decide) (by decide) (by decide) (by decide) (by decide) (by decide) (by decide) (by decide) (by decide) (y_ck335n (by decide) (by decide) (by decide) (by decide) (by decide) (by decide) (br_t rfl ?_)))
    exact br_f (by decide) (y_cmp2 (by decide) rfl z1 hh rfl (nm_r (pk_sub (b := 2) z1) (br_f (by decide) (br_f (by decide) (br_f (by decide) (br_f (by decide) (br_f (by decide) (br_f (by decide) (br_t rfl (br_f hc (y_put rfl (by omega) (y_c187 (by decide) (by decide) (by decide) (by decide) (by decide) (by decide) hp))))))))))))
theorem st_eq {t h n a c s pc : Nat} {PX : Int32 → SX → Prop} (hR : ZR t h n a c mA mB oX oY gY wD pC tk tv cb sk sv vk vv bp br bh bn bs bl px py pm cr sn sx sy sm sp hw fr og lf st la fm fc gr wi mn qx qy ss cl cp) (ha : a < t) (hk : tk a = 1) (hv : tv a = nI 7) (hpc : pC = nI pc) (hp48 : pc ≤ 48) (hE : ZE1 7 h sk pc = 0)
    (H : ∀ (e : Int32) (u' : SX) (v' : SY), ZStep a (s + 1) e u' v' → (∀ PY : SY → Prop, PY v' → wpY_execute PY (nI t, 0, nI h, nI n, nI a, 0, -1, nI (s + 1), nI c, nw, gn, bg, wd, tk, tv, dg, sk, sv, vk, vv, hw, fr, og, lf, st, la, fm, fc, gr, wi, mn, qx, qy, ss, cl, cp, nx, ny)) → PX e u') : wpX_execute PX (nI t, 0, nI a, nI s, -1, nI h, nI n, mA, mB, oX, oY, gY, wD, pC, nI c, tk, tv, cb, sk, sv, vk, vv, bp, br, bh, bn, bs, bl, px, py, pm, cr, sn, sx, sy, sm, sp, dg) (nI a) := by
  have hR' := hR
  obtain ⟨hT, hS, hV, hF, hPO, hG, hSV⟩ := hR
  have ht := hT.1
  have hh := hS.1
  have hmn := zg_mn hG hpc
  have hi : vp_in (nI a) 100 := vp_in_nI (by omega) (by omega)
  have e : (nI a).toNatClampNeg = a := zc_i (by omega)
  have ek : tk (nI a).toNatClampNeg = 1 := by rw [e]; exact hk
  have ev : tv (nI a).toNatClampNeg = nI 7 := by rw [e]; exact hv
  have hpn := po_next hPO ha (by rw [hk]; decide) (by rw [hk]; decide)
  obtain ⟨z1, z2, z3, z4⟩ := ze_0 hE
  have z1 : 2 ≤ h := z1
  refine nm_r (nI_1 s) (nm_r (nI_1 a) ⟨hi, br_t ek ⟨hi, nm_r ev (x_oe0 (by decide) hh hp48 rfl hpc hE (br_t rfl (br_f (by decide) ?_)))⟩⟩)
  unfold wpX_calculate
  refine x_operand (j := 1) rfl rfl hh (by omega) (x_operand (j := 0) rfl rfl hh (by omega) (br_f (by decide) (br_t (by decide) ?_)))
  have k0 := zst_k hS (h - 1 - 0) (by omega)
  have k1 := zst_k hS (h - 1 - 1) (by omega)
  have kk : sk (h - 1 - 1) = sk (h - 1 - 0) ↔ (if sk (h - 1 - 1) = 1 then (1 : Int32) else 0) = (if sk (h - 1 - 0) = 1 then 1 else 0) := by
    rcases k0 with q0 | q0 <;> rcases k1 with q1 | q1 <;> rw [q0, q1] <;> decide
  by_cases hv1 : sv (h - 1 - 1) = sv (h - 1 - 0)
  · by_cases hk1 : sk (h - 1 - 1) = sk (h - 1 - 0)
    · refine br_t hv1 (x_operandKind (j := 1) rfl rfl hh (by omega) (x_operandKind (j := 0) rfl rfl hh (by omega) (br_t hk1 (x_calc159 (n := 2) (by decide) rfl z1 (by omega) rfl (H 0 _ (nI t, 0, nI (h - 2 + 1), nI n, nI a + 1, 0, -1, nI (s + 1), nI c, 0, 0, 0, 0, tk, tv, dg, upd sk (h - 2) 0, upd sv (h - 2) (1), vk, vv, hw, fr, og, lf, st, la, fm, fc, gr, wi, mn, qx, qy, ss, cl, cp, nx, ny) (zs_ok ⟨hT, zst_put (zst_le hS (by omega)) (by omega) zv_0, hV, hF, hpn, hG, hSV⟩ rfl (nI_1 a) rfl rfl rfl rfl rfl rfl) (fun PY hp => ?_))))))
      refine ⟨hi, nm_r ev ⟨hi, nm_r ek (br_f (by decide) (br_f (by decide) (br_f (by decide) (br_t rfl ?_))))⟩⟩
      unfold wY_execute_245 wpY_operate
      refine y_check (by decide) hh hp48 (zst_k hS) rfl hmn (fun z => absurd hE z) (fun _ z => absurd z (by decide)) (fun _ _ _ => y_ck87 rfl hh z1 hmn hp48 (by decide) (by decide) (by decide) (by decide) (by decide) (by decide) (by decide) (by decide) (by decide) (by decide) (by decide) (y_ck335n (by decide) (by decide) (by decide) (by decide) (by decide) (by decide) (br_t rfl ?_)))
      exact br_f (by decide) (y_cmp2 (by decide) rfl z1 hh rfl (nm_r (pk_sub (b := 2) z1) (br_f (by decide) (br_f (by decide) (br_f (by decide) (br_f (by decide) (br_f (by decide) (br_f (by decide) (br_f (by decide) (br_t rfl (br_t hv1 (br_t (kk.mp hk1) (y_put rfl (by omega) (y_c216 (by decide) (by decide) (by decide) (by decide) (by decide) hp))))))))))))))
    · refine br_t hv1 (x_operandKind (j := 1) rfl rfl hh (by omega) (x_operandKind (j := 0) rfl rfl hh (by omega) (br_f hk1 (x_calc159 (n := 2) (by decide) rfl z1 (by omega) rfl (H 0 _ (nI t, 0, nI (h - 2 + 1), nI n, nI a + 1, 0, -1, nI (s + 1), nI c, 0, 0, 0, 0, tk, tv, dg, upd sk (h - 2) 0, upd sv (h - 2) (0), vk, vv, hw, fr, og, lf, st, la, fm, fc, gr, wi, mn, qx, qy, ss, cl, cp, nx, ny) (zs_ok ⟨hT, zst_put (zst_le hS (by omega)) (by omega) zv_0, hV, hF, hpn, hG, hSV⟩ rfl (nI_1 a) rfl rfl rfl rfl rfl rfl) (fun PY hp => ?_))))))
      refine ⟨hi, nm_r ev ⟨hi, nm_r ek (br_f (by decide) (br_f (by decide) (br_f (by decide) (br_t rfl ?_))))⟩⟩
      unfold wY_execute_245 wpY_operate
      refine y_check (by decide) hh hp48 (zst_k hS) rfl hmn (fun z => absurd hE z) (fun _ z => absurd z (by decide)) (fun _ _ _ => y_ck87 rfl hh z1 hmn hp48 (by decide) (by decide) (by decide) (by decide) (by decide) (by decide) (by decide) (by decide) (by decide) (by decide) (by decide) (y_ck335n (by decide) (by decide) (by decide) (by decide) (by decide) (by decide) (br_t rfl ?_)))
      exact br_f (by decide) (y_cmp2 (by decide) rfl z1 hh rfl (nm_r (pk_sub (b := 2) z1) (br_f (by decide) (br_f (by decide) (br_f (by decide) (br_f (by decide) (br_f (by decide) (br_f (by decide) (br_f (by decide) (br_t rfl (br_t hv1 (br_f (fun z => hk1 (kk.mpr z)) (y_c212 rfl (by omega) (y_c216 (by decide) (by decide) (by decide) (by decide) (by decide) hp))))))))))))))
  · refine br_f hv1 (x_calc159 (n := 2) (by decide) rfl z1 (by omega) rfl (H 0 _ (nI t, 0, nI (h - 2 + 1), nI n, nI a + 1, 0, -1, nI (s + 1), nI c, 0, 0, 0, 0, tk, tv, dg, upd sk (h - 2) 0, upd sv (h - 2) (0), vk, vv, hw, fr, og, lf, st, la, fm, fc, gr, wi, mn, qx, qy, ss, cl, cp, nx, ny) (zs_ok ⟨hT, zst_put (zst_le hS (by omega)) (by omega) zv_0, hV, hF, hpn, hG, hSV⟩ rfl (nI_1 a) rfl rfl rfl rfl rfl rfl) (fun PY hp => ?_)))
    refine ⟨hi, nm_r ev ⟨hi, nm_r ek (br_f (by decide) (br_f (by decide) (br_f (by decide) (br_t rfl ?_))))⟩⟩
    unfold wY_execute_245 wpY_operate
    refine y_check (by decide) hh hp48 (zst_k hS) rfl hmn (fun z => absurd hE z) (fun _ z => absurd z (by decide)) (fun _ _ _ => y_ck87 rfl hh z1 hmn hp48 (by decide) (by decide) (by decide) (by decide) (by decide) (by decide) (by decide) (by decide) (by decide) (by decide) (by decide) (y_ck335n (by decide) (by decide) (by decide) (by decide) (by decide) (by decide) (br_t rfl ?_)))
    exact br_f (by decide) (y_cmp2 (by decide) rfl z1 hh rfl (nm_r (pk_sub (b := 2) z1) (br_f (by decide) (br_f (by decide) (br_f (by decide) (br_f (by decide) (br_f (by decide) (br_f (by decide) (br_f (by decide) (br_t rfl (br_f hv1 (y_c212 rfl (by omega) (y_c216 (by decide) (by decide) (by decide) (by decide) (by decide) hp)))))))))))))
end
end
section
section
variable {tc ob ps su ep sd bc mA mB oX oY gY wD pC sC yt yo yh yi ya ye yp ys yc nw gn bg wd : Int32} {tk tv cb sk sv vk vv bp br bh bn bs bl px py pm cr sn sx sy sm sp dg hw fr og lf st la fm fc gr wi mn qx qy ss cl cp nx ny : Nat → Int32}
theorem zk_e {t h : Nat} (hS : ZST t tk h sk sv) {j : Nat} (hj : j < h) : (if sk j = 1 then (1 : Int32) else 0) = sk j := by
  rcases zst_k hS j hj with q | q <;> rw [q] <;> rfl
theorem zi_0 (h : Nat) : nI h - 0 = nI h := by rw [Int32.sub_zero]
theorem st_pop {t h n a c s pc : Nat} {PX : Int32 → SX → Prop} (hR : ZR t h n a c mA mB oX oY gY wD pC tk tv cb sk sv vk vv bp br bh bn bs bl px py pm cr sn sx sy sm sp hw fr og lf st la fm fc gr wi mn qx qy ss cl cp) (ha : a < t) (hk : tk a = 1) (hv : tv a = nI 8) (hpc : pC = nI pc) (hp48 : pc ≤ 48) (hE : ZE1 8 h sk pc = 0)
    (H : ∀ (e : Int32) (u' : SX) (v' : SY), ZStep a (s + 1) e u' v' → (∀ PY : SY → Prop, PY v' → wpY_execute PY (nI t, 0, nI h, nI n, nI a, 0, -1, nI (s + 1), nI c, nw, gn, bg, wd, tk, tv, dg, sk, sv, vk, vv, hw, fr, og, lf, st, la, fm, fc, gr, wi, mn, qx, qy, ss, cl, cp, nx, ny)) → PX e u') : wpX_execute PX (nI t, 0, nI a, nI s, -1, nI h, nI n, mA, mB, oX, oY, gY, wD, pC, nI c, tk, tv, cb, sk, sv, vk, vv, bp, br, bh, bn, bs, bl, px, py, pm, cr, sn, sx, sy, sm, sp, dg) (nI a) := by
  have hR' := hR
  obtain ⟨hT, hS, hV, hF, hPO, hG, hSV⟩ := hR
  have ht := hT.1
  have hh := hS.1
  have hmn := zg_mn hG hpc
  have hi : vp_in (nI a) 100 := vp_in_nI (by omega) (by omega)
  have e : (nI a).toNatClampNeg = a := zc_i (by omega)
  have ek : tk (nI a).toNatClampNeg = 1 := by rw [e]; exact hk
  have ev : tv (nI a).toNatClampNeg = nI 8 := by rw [e]; exact hv
  have hpn := po_next hPO ha (by rw [hk]; decide) (by rw [hk]; decide)
  obtain ⟨z1, z2, z3, z4⟩ := ze_0 hE
  have z1 : 1 ≤ h := z1
  refine nm_r (nI_1 s) (nm_r (nI_1 a) ⟨hi, br_t ek ⟨hi, nm_r ev (x_oe0 (by decide) hh hp48 rfl hpc hE (br_t rfl (br_t (by decide) (br_t (by decide) ?_))))⟩⟩)
  refine br_t rfl (nm_r (pk_sub (b := 1) z1) (H 0 _ (nI t, 0, nI (h - 1), nI n, nI a + 1, 0, -1, nI (s + 1), nI c, 0, 0, 0, 0, tk, tv, dg, sk, sv, vk, vv, hw, fr, og, lf, st, la, fm, fc, gr, wi, mn, qx, qy, ss, cl, cp, nx, ny) (zs_ok ⟨hT, zst_le hS (by omega), hV, hF, hpn, hG, hSV⟩ rfl (nI_1 a) rfl rfl rfl rfl rfl rfl) (fun PY hp => ?_)))
  refine ⟨hi, nm_r ev ⟨hi, nm_r ek (br_f (by decide) (br_f (by decide) (br_f (by decide) (br_t rfl ?_))))⟩⟩
  unfold wY_execute_245 wpY_operate
  refine y_check (by decide) hh hp48 (zst_k hS) rfl hmn (fun z => absurd hE z) (fun _ z => absurd z (by decide)) (fun _ _ _ => y_ck87 rfl hh z1 hmn hp48 (by decide) (by decide) (by decide) (by decide) (by decide) (by decide) (by decide) (by decide) (by decide) (by decide) (by decide) (y_ck335n (by decide) (by decide) (by decide) (by decide) (by decide) (by decide) (br_t rfl ?_)))
  exact br_f (by decide) (y_cmp1 (by decide) rfl z1 hh rfl (nm_r (pk_sub (b := 1) z1) (br_f (by decide) (y_c97 (by decide) (by decide) (by decide) (by decide) (by decide) (by decide) (by decide) (by decide) (by decide) (by decide) (by decide) (by decide) hp))))
theorem st_dup {t h n a c s pc : Nat} {PX : Int32 → SX → Prop} (hR : ZR t h n a c mA mB oX oY gY wD pC tk tv cb sk sv vk vv bp br bh bn bs bl px py pm cr sn sx sy sm sp hw fr og lf st la fm fc gr wi mn qx qy ss cl cp) (ha : a < t) (hk : tk a = 1) (hv : tv a = nI 9) (hpc : pC = nI pc) (hp48 : pc ≤ 48) (hE : ZE1 9 h sk pc = 0)
    (H : ∀ (e : Int32) (u' : SX) (v' : SY), ZStep a (s + 1) e u' v' → (∀ PY : SY → Prop, PY v' → wpY_execute PY (nI t, 0, nI h, nI n, nI a, 0, -1, nI (s + 1), nI c, nw, gn, bg, wd, tk, tv, dg, sk, sv, vk, vv, hw, fr, og, lf, st, la, fm, fc, gr, wi, mn, qx, qy, ss, cl, cp, nx, ny)) → PX e u') : wpX_execute PX (nI t, 0, nI a, nI s, -1, nI h, nI n, mA, mB, oX, oY, gY, wD, pC, nI c, tk, tv, cb, sk, sv, vk, vv, bp, br, bh, bn, bs, bl, px, py, pm, cr, sn, sx, sy, sm, sp, dg) (nI a) := by
  have hR' := hR
  obtain ⟨hT, hS, hV, hF, hPO, hG, hSV⟩ := hR
  have ht := hT.1
  have hh := hS.1
  have hmn := zg_mn hG hpc
  have hi : vp_in (nI a) 100 := vp_in_nI (by omega) (by omega)
  have e : (nI a).toNatClampNeg = a := zc_i (by omega)
  have ek : tk (nI a).toNatClampNeg = 1 := by rw [e]; exact hk
  have ev : tv (nI a).toNatClampNeg = nI 9 := by rw [e]; exact hv
  have hpn := po_next hPO ha (by rw [hk]; decide) (by rw [hk]; decide)
  obtain ⟨z1, z2, z3, z4⟩ := ze_0 hE
  have z1 : 1 ≤ h := z1
  have z4 : h - 1 + 2 ≤ 24 := z4
  have ky := zk_e hS (j := h - 1 - 0) (by omega)
  have e1 : upd (upd sk (h - 1) (sk (h - 1 - 0))) (h - 1 + 1) (sk (h - 1 - 0)) = upd sk h (sk (h - 1 - 0)) := by
    rw [zu_self (a := sk) (k := h - 1) (x := sk (h - 1 - 0)) rfl, show h - 1 + 1 = h by omega]
  have e2 : upd (upd sv (h - 1) (sv (h - 1 - 0))) (h - 1 + 1) (sv (h - 1 - 0)) = upd sv h (sv (h - 1 - 0)) := by
    rw [zu_self (a := sv) (k := h - 1) (x := sv (h - 1 - 0)) rfl, show h - 1 + 1 = h by omega]
  have e3 : h - 1 + 1 + 1 = h + 1 := by omega
  refine nm_r (nI_1 s) (nm_r (nI_1 a) ⟨hi, br_t ek ⟨hi, nm_r ev (x_oe0 (by decide) hh hp48 rfl hpc hE (br_t rfl (br_t (by decide) (br_t (by decide) ?_))))⟩⟩)
  refine br_f (by decide) (br_t rfl ?_)
  unfold wpX_copyDown
  refine x_operandKind (j := 0) rfl rfl hh (by omega) (x_operand (j := 0) rfl rfl hh (by omega) (nm_r (zi_0 h) (x_put rfl (by omega) (H 0 _ (nI t, 0, nI (h - 1 + 1 + 1), nI n, nI a + 1, 0, -1, nI (s + 1), nI c, 0, 0, 0, 0, tk, tv, dg, upd (upd sk (h - 1) (sk (h - 1 - 0))) (h - 1 + 1) (sk (h - 1 - 0)), upd (upd sv (h - 1) (sv (h - 1 - 0))) (h - 1 + 1) (sv (h - 1 - 0)), vk, vv, hw, fr, og, lf, st, la, fm, fc, gr, wi, mn, qx, qy, ss, cl, cp, nx, ny) ?_ (fun PY hp => ?_)))))
  · rw [e1, e2, e3]
    exact zs_ok ⟨hT, zst_put hS (by omega) (hS.2 _ (by omega)), hV, hF, hpn, hG, hSV⟩ rfl (nI_1 a) rfl rfl rfl rfl rfl rfl
  · refine ⟨hi, nm_r ev ⟨hi, nm_r ek (br_f (by decide) (br_f (by decide) (br_f (by decide) (br_t rfl ?_))))⟩⟩
    unfold wY_execute_245 wpY_operate
    refine y_check (by decide) hh hp48 (zst_k hS) rfl hmn (fun z => absurd hE z) (fun _ z => absurd z (by decide)) (fun _ _ _ => y_ck87 rfl hh z1 hmn hp48 (by decide) (by decide) (by decide) (by decide) (by decide) (by decide) (by decide) (by decide) (by decide) (by decide) (by decide) (y_ck335n (by decide) (by decide) (by decide) (by decide) (by decide) (by decide) (br_t rfl ?_)))
    refine br_f (by decide) (y_cmp1 (by decide) rfl z1 hh rfl (nm_r (pk_sub (b := 1) z1) (br_f (by decide) (br_f (by decide) (br_f (by decide) (br_f (by decide) (br_f (by decide) (br_f (by decide) (br_f (by decide) (br_f (by decide) (br_t rfl ?_)))))))))))
    rw [ky]
    unfold wY_compute_228
    exact y_put rfl (by omega) (br_t rfl (y_put rfl (by omega) (br_f (by decide) (y_c262 (by decide) (by decide) (by decide) hp))))
theorem st_exch {t h n a c s pc : Nat} {PX : Int32 → SX → Prop} (hR : ZR t h n a c mA mB oX oY gY wD pC tk tv cb sk sv vk vv bp br bh bn bs bl px py pm cr sn sx sy sm sp hw fr og lf st la fm fc gr wi mn qx qy ss cl cp) (ha : a < t) (hk : tk a = 1) (hv : tv a = nI 10) (hpc : pC = nI pc) (hp48 : pc ≤ 48) (hE : ZE1 10 h sk pc = 0)
    (H : ∀ (e : Int32) (u' : SX) (v' : SY), ZStep a (s + 1) e u' v' → (∀ PY : SY → Prop, PY v' → wpY_execute PY (nI t, 0, nI h, nI n, nI a, 0, -1, nI (s + 1), nI c, nw, gn, bg, wd, tk, tv, dg, sk, sv, vk, vv, hw, fr, og, lf, st, la, fm, fc, gr, wi, mn, qx, qy, ss, cl, cp, nx, ny)) → PX e u') : wpX_execute PX (nI t, 0, nI a, nI s, -1, nI h, nI n, mA, mB, oX, oY, gY, wD, pC, nI c, tk, tv, cb, sk, sv, vk, vv, bp, br, bh, bn, bs, bl, px, py, pm, cr, sn, sx, sy, sm, sp, dg) (nI a) := by
  have hR' := hR
  obtain ⟨hT, hS, hV, hF, hPO, hG, hSV⟩ := hR
  have ht := hT.1
  have hh := hS.1
  have hmn := zg_mn hG hpc
  have hi : vp_in (nI a) 100 := vp_in_nI (by omega) (by omega)
  have e : (nI a).toNatClampNeg = a := zc_i (by omega)
  have ek : tk (nI a).toNatClampNeg = 1 := by rw [e]; exact hk
  have ev : tv (nI a).toNatClampNeg = nI 10 := by rw [e]; exact hv
  have hpn := po_next hPO ha (by rw [hk]; decide) (by rw [hk]; decide)
  obtain ⟨z1, z2, z3, z4⟩ := ze_0 hE
  have z1 : 2 ≤ h := z1
  have z4 : h - 2 + 2 ≤ 24 := z4
  have ky := zk_e hS (j := h - 1 - 0) (by omega)
  have kx := zk_e hS (j := h - 1 - 1) (by omega)
  refine nm_r (nI_1 s) (nm_r (nI_1 a) ⟨hi, br_t ek ⟨hi, nm_r ev (x_oe0 (by decide) hh hp48 rfl hpc hE (br_t rfl (br_t (by decide) (br_t (by decide) ?_))))⟩⟩)
  refine br_f (by decide) (br_f (by decide) (br_t rfl ?_))
  unfold wpX_exchange
  refine x_operandKind (j := 1) rfl rfl hh (by omega) (x_operand (j := 1) rfl rfl hh (by omega) (x_operandKind (j := 0) rfl rfl hh (by omega) (x_operand (j := 0) rfl rfl hh (by omega) (nm_r (pk_sub (b := 2) z1) (x_put rfl (by omega) (x_put rfl (by omega) (H 0 _ (nI t, 0, nI (h - 2 + 1 + 1), nI n, nI a + 1, 0, -1, nI (s + 1), nI c, 0, 0, 0, 0, tk, tv, dg, upd (upd sk (h - 2) (sk (h - 1 - 0))) (h - 2 + 1) (sk (h - 1 - 1)), upd (upd sv (h - 2) (sv (h - 1 - 0))) (h - 2 + 1) (sv (h - 1 - 1)), vk, vv, hw, fr, og, lf, st, la, fm, fc, gr, wi, mn, qx, qy, ss, cl, cp, nx, ny) ?_ (fun PY hp => ?_))))))))
  · exact zs_ok ⟨hT, zst_put (zst_put (zst_le hS (by omega)) (by omega) (hS.2 _ (by omega))) (by omega) (hS.2 _ (by omega)), hV, hF, hpn, hG, hSV⟩ rfl (nI_1 a) rfl rfl rfl rfl rfl rfl
  · refine ⟨hi, nm_r ev ⟨hi, nm_r ek (br_f (by decide) (br_f (by decide) (br_f (by decide) (br_t rfl ?_))))⟩⟩
    unfold wY_execute_245 wpY_operate
    refine y_check (by decide) hh hp48 (zst_k hS) rfl hmn (fun z => absurd hE z) (fun _ z => absurd z (by decide)) (fun _ _ _ => y_ck87 rfl hh z1 hmn hp48 (by decide) (by decide) (by decide) (by decide) (by decide) (by decide) (by decide) (by decide) (by decide) (by decide) (by decide) (y_ck335n (by decide) (by decide) (by decide) (by decide) (by decide) (by decide) (br_t rfl ?_)))
    refine br_f (by decide) (y_cmp2 (by decide) rfl z1 hh rfl (nm_r (pk_sub (b := 2) z1) (br_f (by decide) (br_f (by decide) (br_f (by decide) (br_f (by decide) (br_f (by decide) (br_f (by decide) (br_f (by decide) (br_f (by decide) (br_f (by decide) (br_t rfl ?_))))))))))))
    rw [ky, kx]
    unfold wY_compute_228
    exact y_put rfl (by omega) (br_f (by decide) (br_t rfl (y_put rfl (by omega) (y_c262 (by decide) (by decide) (by decide) hp))))
theorem st_index {t h n a c s pc : Nat} {PX : Int32 → SX → Prop} (hR : ZR t h n a c mA mB oX oY gY wD pC tk tv cb sk sv vk vv bp br bh bn bs bl px py pm cr sn sx sy sm sp hw fr og lf st la fm fc gr wi mn qx qy ss cl cp) (ha : a < t) (hk : tk a = 1) (hv : tv a = nI 11) (hpc : pC = nI pc) (hp48 : pc ≤ 48) (hE : ZE1 11 h sk pc = 0)
    (H : ∀ (e : Int32) (u' : SX) (v' : SY), ZStep a (s + 1) e u' v' → (∀ PY : SY → Prop, PY v' → wpY_execute PY (nI t, 0, nI h, nI n, nI a, 0, -1, nI (s + 1), nI c, nw, gn, bg, wd, tk, tv, dg, sk, sv, vk, vv, hw, fr, og, lf, st, la, fm, fc, gr, wi, mn, qx, qy, ss, cl, cp, nx, ny)) → PX e u') : wpX_execute PX (nI t, 0, nI a, nI s, -1, nI h, nI n, mA, mB, oX, oY, gY, wD, pC, nI c, tk, tv, cb, sk, sv, vk, vv, bp, br, bh, bn, bs, bl, px, py, pm, cr, sn, sx, sy, sm, sp, dg) (nI a) := by
  have hR' := hR
  obtain ⟨hT, hS, hV, hF, hPO, hG, hSV⟩ := hR
  have ht := hT.1
  have hh := hS.1
  have hmn := zg_mn hG hpc
  have hi : vp_in (nI a) 100 := vp_in_nI (by omega) (by omega)
  have e : (nI a).toNatClampNeg = a := zc_i (by omega)
  have ek : tk (nI a).toNatClampNeg = 1 := by rw [e]; exact hk
  have ev : tv (nI a).toNatClampNeg = nI 11 := by rw [e]; exact hv
  have hpn := po_next hPO ha (by rw [hk]; decide) (by rw [hk]; decide)
  obtain ⟨z1, z2, z3, z4⟩ := ze_0 hE
  have z1 : 1 ≤ h := z1
  have z4 : h - 1 + 1 ≤ 24 := z4
  have hm1 : nI h - 1 = nI (h - 1) := pk_sub (b := 1) z1
  have Yck : ∀ PY : SY → Prop, (∀ Q : Int32 → SY → Prop, (sv (h - 1 - 0) < 0 → Q 10 (nI t, 0, nI h, nI n, nI a, 0, -1, nI (s + 1), nI c, 0, 0, 0, 0, tk, tv, dg, sk, sv, vk, vv, hw, fr, og, lf, st, la, fm, fc, gr, wi, mn, qx, qy, ss, cl, cp, nx, ny)) ∧ (¬ sv (h - 1 - 0) < 0 → ((sv (h - 1 - 0) ≤ nI h - 2 → Q 0 (nI t, 0, nI h, nI n, nI a, 0, -1, nI (s + 1), nI c, 0, 0, 0, 0, tk, tv, dg, sk, sv, vk, vv, hw, fr, og, lf, st, la, fm, fc, gr, wi, mn, qx, qy, ss, cl, cp, nx, ny)) ∧ (¬ sv (h - 1 - 0) ≤ nI h - 2 → Q 10 (nI t, 0, nI h, nI n, nI a, 0, -1, nI (s + 1), nI c, 0, 0, 0, 0, tk, tv, dg, sk, sv, vk, vv, hw, fr, og, lf, st, la, fm, fc, gr, wi, mn, qx, qy, ss, cl, cp, nx, ny)))) → wY_check_87 Q (nI 11) (nI (ztk 11)) (nI t) 0 (nI h) (nI n) (nI a) 0 (-1) (nI (s + 1)) (nI c) nw gn bg wd tk tv dg sk sv vk vv hw fr og lf st la fm fc gr wi mn qx qy ss cl cp nx ny) := by
    intro PY Q k
    refine y_plan0 (by decide) (by decide) (by decide) (br_f (by decide) (br_f (by decide) (br_f ?_ (br_f (by decide) (br_f (by decide) (y_top (j := 0) rfl rfl hh (by omega) (br_f (by decide) (br_f (by decide) (br_f (by decide) (br_t rfl (br_c (fun q => k.1 q) (fun q => br_c (fun q2 => ?_) (fun q2 => (k.2 q).2 q2)))))))))))))
    · rw [hmn]
      show ¬ nI 48 < nI pc - nI 0 + nI 0
      rw [pk_sub (by omega), nI_add]
      exact nI_nlt (by omega) (by omega)
    · exact br_f (by decide) (br_f (by decide) (br_t rfl (br_f (by decide) (y_ck335n (by decide) (by decide) (by decide) (by decide) (by decide) (by decide) ((k.2 q).1 q2)))))
  refine nm_r (nI_1 s) (nm_r (nI_1 a) ⟨hi, br_t ek ⟨hi, nm_r ev (x_oe0 (by decide) hh hp48 rfl hpc hE (br_t rfl (br_t (by decide) (br_t (by decide) ?_))))⟩⟩)
  refine br_f (by decide) (br_f (by decide) (br_f (by decide) (br_t rfl ?_)))
  unfold wpX_copyIndexed
  refine x_operand (j := 0) rfl rfl hh (by omega) ?_
  have Yerr : ∀ PY : SY → Prop, (sv (h - 1 - 0) < 0 ∨ (¬ sv (h - 1 - 0) < 0 ∧ ¬ sv (h - 1 - 0) ≤ nI h - 2)) → PY (nI t, 0, nI h, nI n, nI a, 10, -1, nI (s + 1), nI c, 0, 0, 0, 0, tk, tv, dg, sk, sv, vk, vv, hw, fr, og, lf, st, la, fm, fc, gr, wi, mn, qx, qy, ss, cl, cp, nx, ny) → wpY_execute PY (nI t, 0, nI h, nI n, nI a, 0, -1, nI (s + 1), nI c, nw, gn, bg, wd, tk, tv, dg, sk, sv, vk, vv, hw, fr, og, lf, st, la, fm, fc, gr, wi, mn, qx, qy, ss, cl, cp, nx, ny) := by
    intro PY hc hp
    refine ⟨hi, nm_r ev ⟨hi, nm_r ek (br_f (by decide) (br_f (by decide) (br_f (by decide) (br_t rfl ?_))))⟩⟩
    unfold wY_execute_245 wpY_operate
    refine y_check (by decide) hh hp48 (zst_k hS) rfl hmn (fun z => absurd hE z) (fun _ z => absurd z (by decide)) (fun _ _ _ => Yck PY _ ?_)
    rcases hc with q | q
    · exact br_t q (br_f (by decide) hp)
    · exact br_f q.1 (br_f q.2 (br_f (by decide) hp))
  rcases pk_ix (sv (h - 1 - 0)) (n := h - 1) (by omega) with q | q | ⟨m, hm, q⟩
  · exact br_t q (H 10 _ (nI t, 0, nI h, nI n, nI a, 10, -1, nI (s + 1), nI c, 0, 0, 0, 0, tk, tv, dg, sk, sv, vk, vv, hw, fr, og, lf, st, la, fm, fc, gr, wi, mn, qx, qy, ss, cl, cp, nx, ny) (zs_er hR' (by decide)) (fun PY hp => Yerr PY (Or.inl q) hp))
  · have q0 : ¬ sv (h - 1 - 0) < 0 := Int32.not_lt.mpr (Int32.le_trans (nI_pos' (by omega)) q)
    refine br_f q0 (br_f (by rw [hm1]; exact Int32.not_lt.mpr q) (H 10 _ (nI t, 0, nI h, nI n, nI a, 10, -1, nI (s + 1), nI c, 0, 0, 0, 0, tk, tv, dg, sk, sv, vk, vv, hw, fr, og, lf, st, la, fm, fc, gr, wi, mn, qx, qy, ss, cl, cp, nx, ny) (zs_er hR' (by decide)) (fun PY hp => Yerr PY (Or.inr ⟨q0, ?_⟩) hp)))
    by_cases h1 : h = 1
    · subst h1
      intro z
      exact q0 (Int32.lt_of_le_of_lt z (by decide))
    · rw [show nI h - 2 = nI (h - 2) from pk_sub (b := 2) (by omega)]
      exact Int32.not_le.mpr (Int32.lt_of_lt_of_le (nI_lt (by omega) (by omega)) q)
  · have ei : h - 1 - (m + 1) = h - 1 - 1 - m := by omega
    rw [q]
    refine qs_f m 0 (by omega) (br_t (by rw [hm1]; exact nI_lt hm (by omega)) ?_)
    unfold wpX_copyDown
    refine x_operandKind (j := m + 1) rfl (nI_1 m) hh (by omega) (x_operand (j := m + 1) rfl (nI_1 m) hh (by omega) (nm_r hm1 (x_put rfl (by omega) ?_)))
    rw [ei]
    refine H 0 _ (nI t, 0, nI (h - 1 + 1), nI n, nI a + 1, 0, -1, nI (s + 1), nI c, 0, 0, 0, 0, tk, tv, dg, upd sk (h - 1) (sk (h - 1 - 1 - m)), upd sv (h - 1) (sv (h - 1 - 1 - m)), vk, vv, hw, fr, og, lf, st, la, fm, fc, gr, wi, mn, qx, qy, ss, cl, cp, nx, ny) ?_ (fun PY hp => ?_)
    · exact zs_ok ⟨hT, zst_put (zst_le hS (by omega)) (by omega) (hS.2 _ (by omega)), hV, hF, hpn, hG, hSV⟩ rfl (nI_1 a) rfl rfl rfl rfl rfl rfl
    · refine ⟨hi, nm_r ev ⟨hi, nm_r ek (br_f (by decide) (br_f (by decide) (br_f (by decide) (br_t rfl ?_))))⟩⟩
      unfold wY_execute_245 wpY_operate
      refine y_check (by decide) hh hp48 (zst_k hS) rfl hmn (fun z => absurd hE z) (fun _ z => absurd z (by decide)) (fun _ _ _ => Yck PY _ ?_)
      refine br_f (by rw [q]; exact nI_pos (by omega)) (br_t (by rw [q, show nI h - 2 = nI (h - 2) from pk_sub (b := 2) (by omega)]; exact nI_le (by omega) (by omega)) (br_t rfl ?_))
      refine br_f (by decide) (y_cmp1 (by decide) rfl z1 hh rfl ?_)
      rw [q]
      have e5 : (nI (h - 1 - 1 - m)).toNatClampNeg = h - 1 - 1 - m := zc_i (by omega)
      refine nm_r (pk_sub (b := 1) z1) (br_f (by decide) (br_f (by decide) (br_f (by decide) (br_f (by decide) (br_f (by decide) (br_f (by decide) (br_f (by decide) (br_f (by decide) (br_f (by decide) (br_f (by decide) (br_f (by decide) (br_f (by decide) (br_t rfl (nm_r (zs_1 (h := h - 1) hm) ⟨vp_in_nI (by omega) (by omega), vp_in_nI (by omega) (by omega), ?_⟩))))))))))))))
      rw [e5]
      exact y_put rfl (by omega) (br_f (by decide) (br_f (by decide) (nm_e hp)))
theorem st_count {t h n a c s pc : Nat} {PX : Int32 → SX → Prop} (hR : ZR t h n a c mA mB oX oY gY wD pC tk tv cb sk sv vk vv bp br bh bn bs bl px py pm cr sn sx sy sm sp hw fr og lf st la fm fc gr wi mn qx qy ss cl cp) (ha : a < t) (hk : tk a = 1) (hv : tv a = nI 12) (hpc : pC = nI pc) (hp48 : pc ≤ 48) (hE : ZE1 12 h sk pc = 0)
    (H : ∀ (e : Int32) (u' : SX) (v' : SY), ZStep a (s + 1) e u' v' → (∀ PY : SY → Prop, PY v' → wpY_execute PY (nI t, 0, nI h, nI n, nI a, 0, -1, nI (s + 1), nI c, nw, gn, bg, wd, tk, tv, dg, sk, sv, vk, vv, hw, fr, og, lf, st, la, fm, fc, gr, wi, mn, qx, qy, ss, cl, cp, nx, ny)) → PX e u') : wpX_execute PX (nI t, 0, nI a, nI s, -1, nI h, nI n, mA, mB, oX, oY, gY, wD, pC, nI c, tk, tv, cb, sk, sv, vk, vv, bp, br, bh, bn, bs, bl, px, py, pm, cr, sn, sx, sy, sm, sp, dg) (nI a) := by
  have hR' := hR
  obtain ⟨hT, hS, hV, hF, hPO, hG, hSV⟩ := hR
  have ht := hT.1
  have hh := hS.1
  have hmn := zg_mn hG hpc
  have hi : vp_in (nI a) 100 := vp_in_nI (by omega) (by omega)
  have e : (nI a).toNatClampNeg = a := zc_i (by omega)
  have ek : tk (nI a).toNatClampNeg = 1 := by rw [e]; exact hk
  have ev : tv (nI a).toNatClampNeg = nI 12 := by rw [e]; exact hv
  have hpn := po_next hPO ha (by rw [hk]; decide) (by rw [hk]; decide)
  obtain ⟨z1, z2, z3, z4⟩ := ze_0 hE
  have z1 : 0 ≤ h := z1
  have z4 : h - 0 + 1 ≤ 24 := z4
  refine nm_r (nI_1 s) (nm_r (nI_1 a) ⟨hi, br_t ek ⟨hi, nm_r ev (x_oe0 (by decide) hh hp48 rfl hpc hE (br_t rfl (br_t (by decide) (br_t (by decide) ?_))))⟩⟩)
  refine br_f (by decide) (br_f (by decide) (br_f (by decide) (br_f (by decide) (br_t rfl (x_put rfl (by omega) (H 0 _ (nI t, 0, nI (h + 1), nI n, nI a + 1, 0, -1, nI (s + 1), nI c, 0, 0, 0, 0, tk, tv, dg, upd sk h 0, upd sv h (nI h), vk, vv, hw, fr, og, lf, st, la, fm, fc, gr, wi, mn, qx, qy, ss, cl, cp, nx, ny) (zs_ok ⟨hT, zst_put hS (by omega) zv_0, hV, hF, hpn, hG, hSV⟩ rfl (nI_1 a) rfl rfl rfl rfl rfl rfl) (fun PY hp => ?_)))))))
  refine ⟨hi, nm_r ev ⟨hi, nm_r ek (br_f (by decide) (br_f (by decide) (br_f (by decide) (br_t rfl ?_))))⟩⟩
  unfold wY_execute_245 wpY_operate
  refine y_check (by decide) hh hp48 (zst_k hS) rfl hmn (fun z => absurd hE z) (fun _ z => absurd z (by decide)) (fun _ _ _ => y_ck87 rfl hh z1 hmn hp48 (by decide) (by decide) (by decide) (by decide) (by decide) (by decide) (by decide) (by decide) (by decide) (by decide) (by decide) (y_ck335n (by decide) (by decide) (by decide) (by decide) (by decide) (by decide) (br_t rfl ?_)))
  exact br_f (by decide) (y_cmp0 (by decide) rfl (nm_r (zi_0 h) (br_f (by decide) (br_f (by decide) (br_f (by decide) (br_f (by decide) (br_f (by decide) (br_f (by decide) (br_f (by decide) (br_f (by decide) (br_f (by decide) (br_f (by decide) (br_f (by decide) (br_f (by decide) (br_f (by decide) (br_t rfl (y_put rfl (by omega) (br_f (by decide) (nm_e hp)))))))))))))))))))
theorem st_clear {t h n a c s pc : Nat} {PX : Int32 → SX → Prop} (hR : ZR t h n a c mA mB oX oY gY wD pC tk tv cb sk sv vk vv bp br bh bn bs bl px py pm cr sn sx sy sm sp hw fr og lf st la fm fc gr wi mn qx qy ss cl cp) (ha : a < t) (hk : tk a = 1) (hv : tv a = nI 13) (hpc : pC = nI pc) (hp48 : pc ≤ 48) (hE : ZE1 13 h sk pc = 0)
    (H : ∀ (e : Int32) (u' : SX) (v' : SY), ZStep a (s + 1) e u' v' → (∀ PY : SY → Prop, PY v' → wpY_execute PY (nI t, 0, nI h, nI n, nI a, 0, -1, nI (s + 1), nI c, nw, gn, bg, wd, tk, tv, dg, sk, sv, vk, vv, hw, fr, og, lf, st, la, fm, fc, gr, wi, mn, qx, qy, ss, cl, cp, nx, ny)) → PX e u') : wpX_execute PX (nI t, 0, nI a, nI s, -1, nI h, nI n, mA, mB, oX, oY, gY, wD, pC, nI c, tk, tv, cb, sk, sv, vk, vv, bp, br, bh, bn, bs, bl, px, py, pm, cr, sn, sx, sy, sm, sp, dg) (nI a) := by
  have hR' := hR
  obtain ⟨hT, hS, hV, hF, hPO, hG, hSV⟩ := hR
  have ht := hT.1
  have hh := hS.1
  have hmn := zg_mn hG hpc
  have hi : vp_in (nI a) 100 := vp_in_nI (by omega) (by omega)
  have e : (nI a).toNatClampNeg = a := zc_i (by omega)
  have ek : tk (nI a).toNatClampNeg = 1 := by rw [e]; exact hk
  have ev : tv (nI a).toNatClampNeg = nI 13 := by rw [e]; exact hv
  have hpn := po_next hPO ha (by rw [hk]; decide) (by rw [hk]; decide)
  obtain ⟨z1, z2, z3, z4⟩ := ze_0 hE
  have z1 : 0 ≤ h := z1
  refine nm_r (nI_1 s) (nm_r (nI_1 a) ⟨hi, br_t ek ⟨hi, nm_r ev (x_oe0 (by decide) hh hp48 rfl hpc hE (br_t rfl (br_t (by decide) (br_t (by decide) ?_))))⟩⟩)
  refine br_f (by decide) (br_f (by decide) (br_f (by decide) (br_f (by decide) (br_f (by decide) (br_t rfl (nm_r (Int32.sub_self (nI h)) (H 0 _ (nI t, 0, 0, nI n, nI a + 1, 0, -1, nI (s + 1), nI c, 0, 0, 0, 0, tk, tv, dg, sk, sv, vk, vv, hw, fr, og, lf, st, la, fm, fc, gr, wi, mn, qx, qy, ss, cl, cp, nx, ny) (zs_ok (h := 0) ⟨hT, zst_le hS (by omega), hV, hF, hpn, hG, hSV⟩ rfl (nI_1 a) rfl rfl rfl rfl rfl rfl) (fun PY hp => ?_))))))))
  refine ⟨hi, nm_r ev ⟨hi, nm_r ek (br_f (by decide) (br_f (by decide) (br_f (by decide) (br_t rfl ?_))))⟩⟩
  unfold wY_execute_245 wpY_operate
  refine y_check (by decide) hh hp48 (zst_k hS) rfl hmn (fun z => absurd hE z) (fun _ z => absurd z (by decide)) (fun _ _ _ => y_ck87 rfl hh z1 hmn hp48 (by decide) (by decide) (by decide) (by decide) (by decide) (by decide) (by decide) (by decide) (by decide) (by decide) (by decide) (y_ck335n (by decide) (by decide) (by decide) (by decide) (by decide) (by decide) (br_t rfl ?_)))
  exact br_f (by decide) (y_cmp0 (by decide) rfl (nm_r (zi_0 h) (br_f (by decide) (br_f (by decide) (br_f (by decide) (br_f (by decide) (br_f (by decide) (br_f (by decide) (br_f (by decide) (br_f (by decide) (br_f (by decide) (br_f (by decide) (br_f (by decide) (br_f (by decide) (br_f (by decide) (br_f (by decide) (br_t rfl (nm_e hp))))))))))))))))))
end
end
section
section
variable {tc ob ps su ep sd bc mA mB oX oY gY wD pC sC yt yo yh yi ya ye yp ys yc nw gn bg wd : Int32} {tk tv cb sk sv vk vv bp br bh bn bs bl px py pm cr sn sx sy sm sp dg hw fr og lf st la fm fc gr wi mn qx qy ss cl cp nx ny : Nat → Int32}
theorem zfr_push {t n p o : Nat} {w x y z x' y' z' : Int32} (hF : ZFR t tk cb n bp br bh bn bs bl hw fr og lf st la) (hn : n < 12) (hp : p < t) (h2 : tk p = 2) (hpo : ZPO t tk cb bp n (o + 1)) (c2 : w = 2 → x' = x ∧ y' = y ∧ z' = z) (c1 : w = 1 → x' = x ∧ y = -1 ∧ z = 1) :
    ZFR t tk cb (n + 1) (upd bp n (nI p)) (upd br n (nI (o + 1))) (upd bh n w) (upd bn n x) (upd bs n y) (upd bl n z) (upd hw n w) (upd fr n (nI (p + 1))) (upd og n (nI o)) (upd lf n x') (upd st n y') (upd la n z') := by
  refine ⟨by omega, fun k hk => ?_⟩
  by_cases e : k = n
  · subst e
    simp only [pk_us]
    exact ⟨⟨p, o, hp, h2, rfl, rfl, rfl, rfl, po_bp hpo (fun j hj => pk_un (by omega))⟩, trivial, c2, c1⟩
  · simp only [pk_un e]
    obtain ⟨⟨p', o', a1, a2, a3, a4, a5, a6, a7⟩, a8⟩ := hF.2 k (by omega)
    exact ⟨⟨p', o', a1, a2, a3, a4, a5, a6, po_bp a7 (fun j hj => pk_un (by omega))⟩, a8⟩
theorem x_begin {post : Int32 → SX → Prop} {p0 p1 p2 p3 p4 p5 : Int32} {n p h' : Nat} (hn : bc = nI n) (h12 : n < 12) (hp : p1 = nI p) (hs : sd - p0 = nI h') (h2 : p2 ≠ 2) (k : post 0 (tc, ob, nI (p + 1), su, ep, nI h', nI (n + 1), mA, mB, oX, oY, gY, wD, pC, sC, tk, tv, cb, sk, sv, vk, vv, upd bp n (nI p), upd br n ps, upd bh n p2, upd bn n p3, upd bs n p4, upd bl n p5, px, py, pm, cr, sn, sx, sy, sm, sp, dg)) : wpX_begin post (tc, ob, ps, su, ep, sd, bc, mA, mB, oX, oY, gY, wD, pC, sC, tk, tv, cb, sk, sv, vk, vv, bp, br, bh, bn, bs, bl, px, py, pm, cr, sn, sx, sy, sm, sp, dg) p0 p1 p2 p3 p4 p5 := by
  subst hn hp
  have hi : vp_in (nI n) 12 := vp_in_nI h12 (by omega)
  have e : (nI n).toNatClampNeg = n := zc_i (by omega)
  exact qs_t n 12 h12 ⟨hi, nm_r (congrArg (fun q => upd bp q (nI p)) e) ⟨hi, nm_r (congrArg (fun q => upd br q ps) e) ⟨hi, nm_r (congrArg (fun q => upd bh q p2) e) ⟨hi, nm_r (congrArg (fun q => upd bn q p3) e) ⟨hi, nm_r (congrArg (fun q => upd bs q p4) e) ⟨hi, nm_r (congrArg (fun q => upd bl q p5) e) (nm_r (nI_1 n) (nm_r (nI_1 p) (nm_r hs (br_f h2 k))))⟩⟩⟩⟩⟩⟩
theorem x_begin2 {post : Int32 → SX → Prop} {p0 p1 p3 p4 p5 : Int32} {n p h' : Nat} (hn : bc = nI n) (h12 : n < 12) (hp : p1 = nI p) (hs : sd - p0 = nI h') (hh : h' < 24) (k : post 0 (tc, ob, nI (p + 1), su, ep, nI (h' + 1), nI (n + 1), mA, mB, oX, oY, gY, wD, pC, sC, tk, tv, cb, upd sk h' 0, upd sv h' p3, vk, vv, upd bp n (nI p), upd br n ps, upd bh n 2, upd bn n p3, upd bs n p4, upd bl n p5, px, py, pm, cr, sn, sx, sy, sm, sp, dg)) : wpX_begin post (tc, ob, ps, su, ep, sd, bc, mA, mB, oX, oY, gY, wD, pC, sC, tk, tv, cb, sk, sv, vk, vv, bp, br, bh, bn, bs, bl, px, py, pm, cr, sn, sx, sy, sm, sp, dg) p0 p1 2 p3 p4 p5 := by
  subst hn hp
  have hi : vp_in (nI n) 12 := vp_in_nI h12 (by omega)
  have e : (nI n).toNatClampNeg = n := zc_i (by omega)
  exact qs_t n 12 h12 ⟨hi, nm_r (congrArg (fun q => upd bp q (nI p)) e) ⟨hi, nm_r (congrArg (fun q => upd br q ps) e) ⟨hi, nm_r (congrArg (fun q => upd bh q 2) e) ⟨hi, nm_r (congrArg (fun q => upd bn q p3) e) ⟨hi, nm_r (congrArg (fun q => upd bs q p4) e) ⟨hi, nm_r (congrArg (fun q => upd bl q p5) e) (nm_r (nI_1 n) (nm_r (nI_1 p) (nm_r hs (br_t rfl (x_put rfl hh k)))))⟩⟩⟩⟩⟩⟩
theorem x_beginF {post : Int32 → SX → Prop} {p0 p1 p2 p3 p4 p5 : Int32} (hn : bc = nI 12) (k : post 9 (tc, ob, ps, su, ep, sd, bc, mA, mB, oX, oY, gY, wD, pC, sC, tk, tv, cb, sk, sv, vk, vv, bp, br, bh, bn, bs, bl, px, py, pm, cr, sn, sx, sy, sm, sp, dg)) : wpX_begin post (tc, ob, ps, su, ep, sd, bc, mA, mB, oX, oY, gY, wD, pC, sC, tk, tv, cb, sk, sv, vk, vv, bp, br, bh, bn, bs, bl, px, py, pm, cr, sn, sx, sy, sm, sp, dg) p0 p1 p2 p3 p4 p5 := by
  subst hn
  exact qs_f 12 12 (by omega) k
theorem y_enter {post : SY → Prop} {p0 p1 p2 p3 p4 : Int32} {n p : Nat} (hn : yi = nI n) (h12 : n < 12) (hp : p1 = nI p) (k : post (yt, yo, yh, nI (n + 1), nI (p + 1), ye, yp, ys, yc, nw, gn, bg, wd, tk, tv, dg, sk, sv, vk, vv, upd hw n p0, upd fr n (nI (p + 1)), upd og n ya, upd lf n p2, upd st n p3, upd la n p4, fm, fc, gr, wi, mn, qx, qy, ss, cl, cp, nx, ny)) : wpY_enter post (yt, yo, yh, yi, ya, ye, yp, ys, yc, nw, gn, bg, wd, tk, tv, dg, sk, sv, vk, vv, hw, fr, og, lf, st, la, fm, fc, gr, wi, mn, qx, qy, ss, cl, cp, nx, ny) p0 p1 p2 p3 p4 := by
  subst hn hp
  have hi : vp_in (nI n) 12 := vp_in_nI h12 (by omega)
  have e : (nI n).toNatClampNeg = n := zc_i (by omega)
  exact ⟨hi, nm_r (congrArg (fun q => upd hw q p0) e) ⟨hi, nm_r (show _ = upd fr n (nI (p + 1)) by rw [e, nI_1]) ⟨hi, nm_r (congrArg (fun q => upd og q ya) e) ⟨hi, nm_r (congrArg (fun q => upd lf q p2) e) ⟨hi, nm_r (congrArg (fun q => upd st q p3) e) ⟨hi, nm_r (congrArg (fun q => upd la q p4) e) (nm_r (nI_1 n) (nm_r (nI_1 p) k))⟩⟩⟩⟩⟩⟩
theorem y_ck335b {post : Int32 → SY → Prop} {op b : Int32} {n : Nat} (hyi : yi = nI n) (hn : n ≤ 12) (kb : ∀ Q : Int32 → Prop, Q b → wpY_begins Q (yt, yo, yh, yi, ya, ye, yp, ys, yc, nw, gn, bg, wd, tk, tv, dg, sk, sv, vk, vv, hw, fr, og, lf, st, la, fm, fc, gr, wi, mn, qx, qy, ss, cl, cp, nx, ny) op) (k9 : n = 12 → b ≠ 0 → post 9 (yt, yo, yh, yi, ya, ye, yp, ys, yc, nw, gn, bg, wd, tk, tv, dg, sk, sv, vk, vv, hw, fr, og, lf, st, la, fm, fc, gr, wi, mn, qx, qy, ss, cl, cp, nx, ny)) (k0 : ¬ (n = 12 ∧ b ≠ 0) → post 0 (yt, yo, yh, yi, ya, ye, yp, ys, yc, nw, gn, bg, wd, tk, tv, dg, sk, sv, vk, vv, hw, fr, og, lf, st, la, fm, fc, gr, wi, mn, qx, qy, ss, cl, cp, nx, ny)) : wY_check_335 post op yt yo yh yi ya ye yp ys yc nw gn bg wd tk tv dg sk sv vk vv hw fr og lf st la fm fc gr wi mn qx qy ss cl cp nx ny := by
  subst hyi
  refine pk_eq n 12 (fun h1 => kb _ (br_c (fun q => k0 (fun z => z.2 q)) (fun q => k9 h1 q))) (fun h1 => k0 (fun z => h1 z.1))
theorem zproc {t h j : Nat} (hS : ZST t tk h sk sv) (hj : j < h) (e : sk j = 1) : ∃ p : Nat, p < t ∧ sv j = nI p ∧ tk p = 2 := by
  rcases hS.2 j hj with q | q
  · rw [e] at q; exact absurd q (by decide)
  · exact q.2
theorem zlast (f : Nat → Int32) : ∀ n, (∀ j, j < n → f j = 0) ∨ ∃ k, k < n ∧ f k ≠ 0 ∧ ∀ j, k < j → j < n → f j = 0 := by
  intro n
  induction n with
  | zero => exact Or.inl (fun j hj => by omega)
  | succ n ih =>
    by_cases e : f n = 0
    · rcases ih with h | ⟨k, h1, h2, h3⟩
      · refine Or.inl (fun j hj => ?_)
        by_cases q : j = n
        · rw [q]; exact e
        · exact h j (by omega)
      · refine Or.inr ⟨k, by omega, h2, fun j hj hj2 => ?_⟩
        by_cases q : j = n
        · rw [q]; exact e
        · exact h3 j hj (by omega)
    · exact Or.inr ⟨n, by omega, e, fun j h1 h2 => by omega⟩
theorem zi_m (d : Nat) : nI d + (-1) = nI d - 1 := by grind
theorem x_ll_none {post : Int32 → SX → Prop} (k : post 8 (tc, ob, ps, su, ep, sd, bc, mA, mB, oX, oY, gY, wD, pC, sC, tk, tv, cb, sk, sv, vk, vv, bp, br, bh, bn, bs, bl, px, py, pm, cr, sn, sx, sy, sm, sp, dg)) : ∀ d, d ≤ 12 → (∀ j, j < d → bh j = 0) → wX_leaveLoop_7 post tc ob ps su ep sd bc mA mB oX oY gY wD pC sC tk tv cb sk sv vk vv bp br bh bn bs bl px py pm cr sn sx sy sm sp dg (d + 1) (nI d - 1) := by
  intro d
  induction d with
  | zero => intro _ _; exact br_t (by decide) k
  | succ d ih =>
    intro hd hz
    rw [nI_pred]
    refine qs_f d 0 (by omega) ⟨vp_in_nI (by omega) (by omega), br_t (by rw [zc_i (by omega)]; exact hz d (by omega)) (nm_r (zi_m d) (ih (by omega) (fun j hj => hz j (by omega))))⟩
theorem x_ll_some {post : Int32 → SX → Prop} {m : Nat} (hm : bh m ≠ 0) (k : post 0 (tc, ob, br m, su, ep, sd, nI m, mA, mB, oX, oY, gY, wD, pC, sC, tk, tv, cb, sk, sv, vk, vv, bp, br, bh, bn, bs, bl, px, py, pm, cr, sn, sx, sy, sm, sp, dg)) : ∀ d, m + d < 12 → (∀ j, m < j → j ≤ m + d → bh j = 0) → wX_leaveLoop_7 post tc ob ps su ep sd bc mA mB oX oY gY wD pC sC tk tv cb sk sv vk vv bp br bh bn bs bl px py pm cr sn sx sy sm sp dg (d + 1) (nI (m + d)) := by
  intro d
  induction d with
  | zero =>
    intro hd _
    have e : (nI (m + 0)).toNatClampNeg = m := zc_i (by omega)
    refine qs_f (m + 0) 0 (by omega) ⟨vp_in_nI (by omega) (by omega), br_f (by rw [e]; exact hm) ⟨vp_in_nI (by omega) (by omega), nm_r (congrArg br e) k⟩⟩
  | succ d ih =>
    intro hd hz
    refine qs_f (m + (d + 1)) 0 (by omega) ⟨vp_in_nI (by omega) (by omega), br_t (by rw [zc_i (by omega)]; exact hz _ (by omega) (by omega)) (nm_r (pk_m1 (m + d)) (ih (by omega) (fun j h1 h2 => hz j h1 (by omega))))⟩
theorem y_ll_none {post : Int32 → Prop} (k : post (-1)) : ∀ d, d ≤ 12 → (∀ j, j < d → hw j = 0) → wY_loopInside_7 post yt yo yh yi ya ye yp ys yc nw gn bg wd tk tv dg sk sv vk vv hw fr og lf st la fm fc gr wi mn qx qy ss cl cp nx ny (d + 1) (nI d - 1) := by
  intro d
  induction d with
  | zero => intro _ _; exact br_t (by decide) k
  | succ d ih =>
    intro hd hz
    rw [nI_pred]
    refine qs_f d 0 (by omega) ⟨vp_in_nI (by omega) (by omega), br_t (by rw [zc_i (by omega)]; exact hz d (by omega)) (nm_r (zi_m d) (ih (by omega) (fun j hj => hz j (by omega))))⟩
theorem y_ll_some {post : Int32 → Prop} {m : Nat} (hm : hw m ≠ 0) (k : post (nI m)) : ∀ d, m + d < 12 → (∀ j, m < j → j ≤ m + d → hw j = 0) → wY_loopInside_7 post yt yo yh yi ya ye yp ys yc nw gn bg wd tk tv dg sk sv vk vv hw fr og lf st la fm fc gr wi mn qx qy ss cl cp nx ny (d + 1) (nI (m + d)) := by
  intro d
  induction d with
  | zero =>
    intro hd _
    have e : (nI (m + 0)).toNatClampNeg = m := zc_i (by omega)
    exact qs_f (m + 0) 0 (by omega) ⟨vp_in_nI (by omega) (by omega), br_f (by rw [e]; exact hm) k⟩
  | succ d ih =>
    intro hd hz
    refine qs_f (m + (d + 1)) 0 (by omega) ⟨vp_in_nI (by omega) (by omega), br_t (by rw [zc_i (by omega)]; exact hz _ (by omega) (by omega)) (nm_r (pk_m1 (m + d)) (ih (by omega) (fun j h1 h2 => hz j h1 (by omega))))⟩
theorem st_exec {t h n a c s pc : Nat} {PX : Int32 → SX → Prop} (hR : ZR t h n a c mA mB oX oY gY wD pC tk tv cb sk sv vk vv bp br bh bn bs bl px py pm cr sn sx sy sm sp hw fr og lf st la fm fc gr wi mn qx qy ss cl cp) (ha : a < t) (hk : tk a = 1) (hv : tv a = nI 14) (hpc : pC = nI pc) (hp48 : pc ≤ 48) (hE : ZE1 14 h sk pc = 0)
    (H : ∀ (e : Int32) (u' : SX) (v' : SY), ZStep a (s + 1) e u' v' → (∀ PY : SY → Prop, PY v' → wpY_execute PY (nI t, 0, nI h, nI n, nI a, 0, -1, nI (s + 1), nI c, nw, gn, bg, wd, tk, tv, dg, sk, sv, vk, vv, hw, fr, og, lf, st, la, fm, fc, gr, wi, mn, qx, qy, ss, cl, cp, nx, ny)) → PX e u') : wpX_execute PX (nI t, 0, nI a, nI s, -1, nI h, nI n, mA, mB, oX, oY, gY, wD, pC, nI c, tk, tv, cb, sk, sv, vk, vv, bp, br, bh, bn, bs, bl, px, py, pm, cr, sn, sx, sy, sm, sp, dg) (nI a) := by
  have hR' := hR
  obtain ⟨hT, hS, hV, hF, hPO, hG, hSV⟩ := hR
  have ht := hT.1
  have hh := hS.1
  have hmn := zg_mn hG hpc
  have hi : vp_in (nI a) 100 := vp_in_nI (by omega) (by omega)
  have e : (nI a).toNatClampNeg = a := zc_i (by omega)
  have ek : tk (nI a).toNatClampNeg = 1 := by rw [e]; exact hk
  have ev : tv (nI a).toNatClampNeg = nI 14 := by rw [e]; exact hv
  have hpn := po_next hPO ha (by rw [hk]; decide) (by rw [hk]; decide)
  obtain ⟨z1, z2, z3, z4⟩ := ze_0 hE
  have z1 : 1 ≤ h := z1
  have hn12 := hF.1
  obtain ⟨p, hp, ep, hp2⟩ := zproc hS (j := h - 1 - 0) (by omega) (z2 rfl 0 (by decide))
  refine nm_r (nI_1 s) (nm_r (nI_1 a) ⟨hi, br_t ek ⟨hi, nm_r ev (x_oe0 (by decide) hh hp48 rfl hpc hE (br_t rfl (br_t (by decide) (br_f (by decide) (br_f (by decide) (br_f (by decide) (br_f (by decide) ?_)))))))⟩⟩)
  unfold wpX_control
  refine x_operand (j := 0) rfl rfl hh (by omega) (x_operandA (j := 1) rfl rfl hh (by omega) (fun _ => x_operandA (j := 2) rfl rfl hh (by omega) (fun _ => br_f (by decide) (br_f (by decide) (br_t rfl ?_)))))
  by_cases h12 : n = 12
  · refine x_beginF (congrArg nI h12) (H 9 _ (nI t, 0, nI h, nI n, nI a, 9, -1, nI (s + 1), nI c, 0, 0, 0, 0, tk, tv, dg, sk, sv, vk, vv, hw, fr, og, lf, st, la, fm, fc, gr, wi, mn, qx, qy, ss, cl, cp, nx, ny) (zs_er hR' (by decide)) (fun PY hp' => ?_))
    refine ⟨hi, nm_r ev ⟨hi, nm_r ek (br_f (by decide) (br_f (by decide) (br_f (by decide) (br_t rfl ?_))))⟩⟩
    unfold wY_execute_245 wpY_operate
    refine y_check (by decide) hh hp48 (zst_k hS) rfl hmn (fun z => absurd hE z) (fun _ z => absurd z (by decide)) (fun _ _ _ => y_ck87 rfl hh z1 hmn hp48 (by decide) (by decide) (by decide) (by decide) (by decide) (by decide) (by decide) (by decide) (by decide) (by decide) (by decide) (y_ck335b (b := 1) (n := n) rfl (by omega) (fun Q q => br_t rfl q) (fun _ _ => br_f (by decide) hp') (fun z => absurd ⟨h12, by decide⟩ z)))
  · refine x_begin rfl (by omega) ep (pk_sub (b := 1) z1) (by decide) (H 0 _ (nI t, 0, nI (h - 1), nI (n + 1), nI (p + 1), 0, -1, nI (s + 1), nI c, 0, 0, 0, 0, tk, tv, dg, sk, sv, vk, vv, upd hw n 0, upd fr n (nI (p + 1)), upd og n (nI a), upd lf n 0, upd st n 0, upd la n 0, fm, fc, gr, wi, mn, qx, qy, ss, cl, cp, nx, ny) (zs_ok ⟨hT, zst_le hS (by omega), hV, zfr_push hF (by omega) hp hp2 hpn (fun q => absurd q (by decide)) (fun q => absurd q (by decide)), po_in hT hp hp2, hG, hSV⟩ rfl rfl rfl rfl rfl rfl rfl rfl) (fun PY hp' => ?_))
    refine ⟨hi, nm_r ev ⟨hi, nm_r ek (br_f (by decide) (br_f (by decide) (br_f (by decide) (br_t rfl ?_))))⟩⟩
    unfold wY_execute_245 wpY_operate
    refine y_check (by decide) hh hp48 (zst_k hS) rfl hmn (fun z => absurd hE z) (fun _ z => absurd z (by decide)) (fun _ _ _ => y_ck87 rfl hh z1 hmn hp48 (by decide) (by decide) (by decide) (by decide) (by decide) (by decide) (by decide) (by decide) (by decide) (by decide) (by decide) (y_ck335b (b := 1) (n := n) rfl (by omega) (fun Q q => br_t rfl q) (fun z _ => absurd z h12) (fun _ => br_t rfl ?_)))
    refine br_t (by decide) (br_f (by decide) ?_)
    refine br_f (by decide) (y_top (j := 0) rfl rfl hh (by omega) ?_)
    unfold wY_control_15
    refine (fun Q q => br_t rfl q) _ (br_t rfl (?_))
    exact nm_r (pk_sub (b := 1) z1) (y_enter rfl (by omega) ep (br_f (by decide) hp'))
theorem st_loop {t h n a c s pc : Nat} {PX : Int32 → SX → Prop} (hR : ZR t h n a c mA mB oX oY gY wD pC tk tv cb sk sv vk vv bp br bh bn bs bl px py pm cr sn sx sy sm sp hw fr og lf st la fm fc gr wi mn qx qy ss cl cp) (ha : a < t) (hk : tk a = 1) (hv : tv a = nI 19) (hpc : pC = nI pc) (hp48 : pc ≤ 48) (hE : ZE1 19 h sk pc = 0)
    (H : ∀ (e : Int32) (u' : SX) (v' : SY), ZStep a (s + 1) e u' v' → (∀ PY : SY → Prop, PY v' → wpY_execute PY (nI t, 0, nI h, nI n, nI a, 0, -1, nI (s + 1), nI c, nw, gn, bg, wd, tk, tv, dg, sk, sv, vk, vv, hw, fr, og, lf, st, la, fm, fc, gr, wi, mn, qx, qy, ss, cl, cp, nx, ny)) → PX e u') : wpX_execute PX (nI t, 0, nI a, nI s, -1, nI h, nI n, mA, mB, oX, oY, gY, wD, pC, nI c, tk, tv, cb, sk, sv, vk, vv, bp, br, bh, bn, bs, bl, px, py, pm, cr, sn, sx, sy, sm, sp, dg) (nI a) := by
  have hR' := hR
  obtain ⟨hT, hS, hV, hF, hPO, hG, hSV⟩ := hR
  have ht := hT.1
  have hh := hS.1
  have hmn := zg_mn hG hpc
  have hi : vp_in (nI a) 100 := vp_in_nI (by omega) (by omega)
  have e : (nI a).toNatClampNeg = a := zc_i (by omega)
  have ek : tk (nI a).toNatClampNeg = 1 := by rw [e]; exact hk
  have ev : tv (nI a).toNatClampNeg = nI 19 := by rw [e]; exact hv
  have hpn := po_next hPO ha (by rw [hk]; decide) (by rw [hk]; decide)
  obtain ⟨z1, z2, z3, z4⟩ := ze_0 hE
  have z1 : 1 ≤ h := z1
  have hn12 := hF.1
  obtain ⟨p, hp, ep, hp2⟩ := zproc hS (j := h - 1 - 0) (by omega) (z2 rfl 0 (by decide))
  refine nm_r (nI_1 s) (nm_r (nI_1 a) ⟨hi, br_t ek ⟨hi, nm_r ev (x_oe0 (by decide) hh hp48 rfl hpc hE (br_t rfl (br_t (by decide) (br_f (by decide) (br_f (by decide) (br_f (by decide) (br_f (by decide) ?_)))))))⟩⟩)
  unfold wpX_control
  refine x_operand (j := 0) rfl rfl hh (by omega) (x_operandA (j := 1) rfl rfl hh (by omega) (fun _ => x_operandA (j := 2) rfl rfl hh (by omega) (fun _ => br_f (by decide) (br_f (by decide) (br_f (by decide) (br_f (by decide) (br_f (by decide) (br_f (by decide) (br_f (by decide) (br_t rfl ?_))))))))))
  by_cases h12 : n = 12
  · refine x_beginF (congrArg nI h12) (H 9 _ (nI t, 0, nI h, nI n, nI a, 9, -1, nI (s + 1), nI c, 0, 0, 0, 0, tk, tv, dg, sk, sv, vk, vv, hw, fr, og, lf, st, la, fm, fc, gr, wi, mn, qx, qy, ss, cl, cp, nx, ny) (zs_er hR' (by decide)) (fun PY hp' => ?_))
    refine ⟨hi, nm_r ev ⟨hi, nm_r ek (br_f (by decide) (br_f (by decide) (br_f (by decide) (br_t rfl ?_))))⟩⟩
    unfold wY_execute_245 wpY_operate
    refine y_check (by decide) hh hp48 (zst_k hS) rfl hmn (fun z => absurd hE z) (fun _ z => absurd z (by decide)) (fun _ _ _ => y_ck87 rfl hh z1 hmn hp48 (by decide) (by decide) (by decide) (by decide) (by decide) (by decide) (by decide) (by decide) (by decide) (by decide) (by decide) (y_ck335b (b := 1) (n := n) rfl (by omega) (fun Q q => br_f (by decide) (br_f (by decide) (br_t rfl q))) (fun _ _ => br_f (by decide) hp') (fun z => absurd ⟨h12, by decide⟩ z)))
  · refine x_begin rfl (by omega) ep (pk_sub (b := 1) z1) (by decide) (H 0 _ (nI t, 0, nI (h - 1), nI (n + 1), nI (p + 1), 0, -1, nI (s + 1), nI c, 0, 0, 0, 0, tk, tv, dg, sk, sv, vk, vv, upd hw n 3, upd fr n (nI (p + 1)), upd og n (nI a), upd lf n 0, upd st n 0, upd la n 0, fm, fc, gr, wi, mn, qx, qy, ss, cl, cp, nx, ny) (zs_ok ⟨hT, zst_le hS (by omega), hV, zfr_push hF (by omega) hp hp2 hpn (fun q => absurd q (by decide)) (fun q => absurd q (by decide)), po_in hT hp hp2, hG, hSV⟩ rfl rfl rfl rfl rfl rfl rfl rfl) (fun PY hp' => ?_))
    refine ⟨hi, nm_r ev ⟨hi, nm_r ek (br_f (by decide) (br_f (by decide) (br_f (by decide) (br_t rfl ?_))))⟩⟩
    unfold wY_execute_245 wpY_operate
    refine y_check (by decide) hh hp48 (zst_k hS) rfl hmn (fun z => absurd hE z) (fun _ z => absurd z (by decide)) (fun _ _ _ => y_ck87 rfl hh z1 hmn hp48 (by decide) (by decide) (by decide) (by decide) (by decide) (by decide) (by decide) (by decide) (by decide) (by decide) (by decide) (y_ck335b (b := 1) (n := n) rfl (by omega) (fun Q q => br_f (by decide) (br_f (by decide) (br_t rfl q))) (fun z _ => absurd z h12) (fun _ => br_t rfl ?_)))
    refine br_t (by decide) (br_f (by decide) ?_)
    refine br_f (by decide) (y_top (j := 0) rfl rfl hh (by omega) ?_)
    unfold wY_control_15
    refine (fun Q q => br_f (by decide) (br_f (by decide) (br_t rfl q))) _ (br_f (by decide) (br_f (by decide) (br_f (by decide) (br_f (by decide) (br_f (by decide) (br_t rfl (?_)))))))
    exact nm_r (pk_sub (b := 1) z1) (y_enter rfl (by omega) ep (br_f (by decide) hp'))
theorem st_ifelse {t h n a c s pc : Nat} {PX : Int32 → SX → Prop} (hR : ZR t h n a c mA mB oX oY gY wD pC tk tv cb sk sv vk vv bp br bh bn bs bl px py pm cr sn sx sy sm sp hw fr og lf st la fm fc gr wi mn qx qy ss cl cp) (ha : a < t) (hk : tk a = 1) (hv : tv a = nI 16) (hpc : pC = nI pc) (hp48 : pc ≤ 48) (hE : ZE1 16 h sk pc = 0)
    (H : ∀ (e : Int32) (u' : SX) (v' : SY), ZStep a (s + 1) e u' v' → (∀ PY : SY → Prop, PY v' → wpY_execute PY (nI t, 0, nI h, nI n, nI a, 0, -1, nI (s + 1), nI c, nw, gn, bg, wd, tk, tv, dg, sk, sv, vk, vv, hw, fr, og, lf, st, la, fm, fc, gr, wi, mn, qx, qy, ss, cl, cp, nx, ny)) → PX e u') : wpX_execute PX (nI t, 0, nI a, nI s, -1, nI h, nI n, mA, mB, oX, oY, gY, wD, pC, nI c, tk, tv, cb, sk, sv, vk, vv, bp, br, bh, bn, bs, bl, px, py, pm, cr, sn, sx, sy, sm, sp, dg) (nI a) := by
  have hR' := hR
  obtain ⟨hT, hS, hV, hF, hPO, hG, hSV⟩ := hR
  have ht := hT.1
  have hh := hS.1
  have hmn := zg_mn hG hpc
  have hi : vp_in (nI a) 100 := vp_in_nI (by omega) (by omega)
  have e : (nI a).toNatClampNeg = a := zc_i (by omega)
  have ek : tk (nI a).toNatClampNeg = 1 := by rw [e]; exact hk
  have ev : tv (nI a).toNatClampNeg = nI 16 := by rw [e]; exact hv
  have hpn := po_next hPO ha (by rw [hk]; decide) (by rw [hk]; decide)
  obtain ⟨z1, z2, z3, z4⟩ := ze_0 hE
  have z1 : 3 ≤ h := z1
  have hn12 := hF.1
  obtain ⟨p, hp, ep, hp2⟩ := zproc hS (j := h - 1 - 0) (by omega) (z2 rfl 0 (by decide))
  obtain ⟨q, hq, eq, hq2⟩ := zproc hS (j := h - 1 - 1) (by omega) (z2 rfl 1 (by decide))
  refine nm_r (nI_1 s) (nm_r (nI_1 a) ⟨hi, br_t ek ⟨hi, nm_r ev (x_oe0 (by decide) hh hp48 rfl hpc hE (br_t rfl (br_t (by decide) (br_f (by decide) (br_f (by decide) (br_f (by decide) (br_f (by decide) ?_)))))))⟩⟩)
  unfold wpX_control
  refine x_operand (j := 0) rfl rfl hh (by omega) (x_operand (j := 1) rfl rfl hh (by omega) (x_operand (j := 2) rfl rfl hh (by omega) (br_f (by decide) (br_f (by decide) (br_f (by decide) (br_f (by decide) (br_t rfl ?_)))))))
  have key : ∀ (r : Int32) (m : Nat), r = nI m → m < t → tk m = 2 → (∀ PY : SY → Prop, wY_control_125 PY 1 r 0 (nI t) 0 (nI (h - 3)) (nI n) (nI a) 0 (-1) (nI (s + 1)) (nI c) 0 0 0 0 tk tv dg sk sv vk vv hw fr og lf st la fm fc gr wi mn qx qy ss cl cp nx ny → wpY_control PY (nI t, 0, nI h, nI n, nI a, 0, -1, nI (s + 1), nI c, 0, 0, 0, 0, tk, tv, dg, sk, sv, vk, vv, hw, fr, og, lf, st, la, fm, fc, gr, wi, mn, qx, qy, ss, cl, cp, nx, ny) (nI 16)) → wX_control_106 (fun r u => match u with | (tc, ob, ps, su, ep, sd, bc, mA, mB, oX, oY, gY, wD, pC, sC, tk, tv, cb, sk, sv, vk, vv, bp, br, bh, bn, bs, bl, px, py, pm, cr, sn, sx, sy, sm, sp, dg) => PX r (tc, ob, ps, su, ep, sd, bc, mA, mB, oX, oY, gY, wD, pC, sC, tk, tv, cb, sk, sv, vk, vv, bp, br, bh, bn, bs, bl, px, py, pm, cr, sn, sx, sy, sm, sp, dg)) r 3 (nI t) 0 (nI (a + 1)) (nI (s + 1)) (-1) (nI h) (nI n) mA mB oX oY gY wD pC (nI c) tk tv cb sk sv vk vv bp br bh bn bs bl px py pm cr sn sx sy sm sp dg := by
    intro r m er hm hm2 HY
    unfold wX_control_106
    by_cases h12 : n = 12
    · refine x_beginF (congrArg nI h12) (H 9 _ (nI t, 0, nI h, nI n, nI a, 9, -1, nI (s + 1), nI c, 0, 0, 0, 0, tk, tv, dg, sk, sv, vk, vv, hw, fr, og, lf, st, la, fm, fc, gr, wi, mn, qx, qy, ss, cl, cp, nx, ny) (zs_er hR' (by decide)) (fun PY hp' => ?_))
      refine ⟨hi, nm_r ev ⟨hi, nm_r ek (br_f (by decide) (br_f (by decide) (br_f (by decide) (br_t rfl ?_))))⟩⟩
      unfold wY_execute_245 wpY_operate
      refine y_check (by decide) hh hp48 (zst_k hS) rfl hmn (fun z => absurd hE z) (fun _ z => absurd z (by decide)) (fun _ _ _ => y_ck87 rfl hh z1 hmn hp48 (by decide) (by decide) (by decide) (by decide) (by decide) (by decide) (by decide) (by decide) (by decide) (by decide) (by decide) (y_ck335b (b := 1) (n := n) rfl (by omega) (fun Q q => br_f (by decide) (br_t rfl q)) (fun _ _ => br_f (by decide) hp') (fun z => absurd ⟨h12, by decide⟩ z)))
    · refine x_begin rfl (by omega) er (pk_sub (b := 3) z1) (by decide) (H 0 _ (nI t, 0, nI (h - 3), nI (n + 1), nI (m + 1), 0, -1, nI (s + 1), nI c, 0, 0, 0, 0, tk, tv, dg, sk, sv, vk, vv, upd hw n 0, upd fr n (nI (m + 1)), upd og n (nI a), upd lf n 0, upd st n 0, upd la n 0, fm, fc, gr, wi, mn, qx, qy, ss, cl, cp, nx, ny) (zs_ok ⟨hT, zst_le hS (by omega), hV, zfr_push hF (by omega) hm hm2 hpn (fun q => absurd q (by decide)) (fun q => absurd q (by decide)), po_in hT hm hm2, hG, hSV⟩ rfl rfl rfl rfl rfl rfl rfl rfl) (fun PY hp' => ?_))
      refine ⟨hi, nm_r ev ⟨hi, nm_r ek (br_f (by decide) (br_f (by decide) (br_f (by decide) (br_t rfl ?_))))⟩⟩
      unfold wY_execute_245 wpY_operate
      refine y_check (by decide) hh hp48 (zst_k hS) rfl hmn (fun z => absurd hE z) (fun _ z => absurd z (by decide)) (fun _ _ _ => y_ck87 rfl hh z1 hmn hp48 (by decide) (by decide) (by decide) (by decide) (by decide) (by decide) (by decide) (by decide) (by decide) (by decide) (by decide) (y_ck335b (b := 1) (n := n) rfl (by omega) (fun Q q => br_f (by decide) (br_t rfl q)) (fun z _ => absurd z h12) (fun _ => br_t rfl ?_)))
      refine br_t (by decide) (br_f (by decide) (HY _ ?_))
      unfold wY_control_125
      exact y_enter rfl (by omega) er (br_f (by decide) hp')
  have Yin : ∀ PY : SY → Prop, ((sv (h - 1 - 2) = 0 → wY_control_125 PY 1 (sv (h - 1 - 0)) 0 (nI t) 0 (nI (h - 3)) (nI n) (nI a) 0 (-1) (nI (s + 1)) (nI c) 0 0 0 0 tk tv dg sk sv vk vv hw fr og lf st la fm fc gr wi mn qx qy ss cl cp nx ny) ∧ (¬ sv (h - 1 - 2) = 0 → wY_control_125 PY 1 (sv (h - 1 - 1)) 0 (nI t) 0 (nI (h - 3)) (nI n) (nI a) 0 (-1) (nI (s + 1)) (nI c) 0 0 0 0 tk tv dg sk sv vk vv hw fr og lf st la fm fc gr wi mn qx qy ss cl cp nx ny)) → wpY_control PY (nI t, 0, nI h, nI n, nI a, 0, -1, nI (s + 1), nI c, 0, 0, 0, 0, tk, tv, dg, sk, sv, vk, vv, hw, fr, og, lf, st, la, fm, fc, gr, wi, mn, qx, qy, ss, cl, cp, nx, ny) (nI 16) := by
    intro PY k
    refine br_f (by decide) (y_top (j := 0) rfl rfl hh (by omega) ?_)
    unfold wY_control_15
    refine (fun Q q => br_f (by decide) (br_t rfl q)) _ (br_f (by decide) (br_f (by decide) (br_t rfl ?_)))
    exact y_top (j := 1) rfl rfl hh (by omega) (y_top (j := 2) rfl rfl hh (by omega) (nm_r (pk_sub (b := 3) z1) k))
  exact br_c (fun q0 => key _ p ep hp hp2 (fun PY k => Yin PY (br_t q0 k))) (fun q0 => key _ q eq hq hq2 (fun PY k => Yin PY (br_f q0 k)))
theorem st_if {t h n a c s pc : Nat} {PX : Int32 → SX → Prop} (hR : ZR t h n a c mA mB oX oY gY wD pC tk tv cb sk sv vk vv bp br bh bn bs bl px py pm cr sn sx sy sm sp hw fr og lf st la fm fc gr wi mn qx qy ss cl cp) (ha : a < t) (hk : tk a = 1) (hv : tv a = nI 15) (hpc : pC = nI pc) (hp48 : pc ≤ 48) (hE : ZE1 15 h sk pc = 0)
    (H : ∀ (e : Int32) (u' : SX) (v' : SY), ZStep a (s + 1) e u' v' → (∀ PY : SY → Prop, PY v' → wpY_execute PY (nI t, 0, nI h, nI n, nI a, 0, -1, nI (s + 1), nI c, nw, gn, bg, wd, tk, tv, dg, sk, sv, vk, vv, hw, fr, og, lf, st, la, fm, fc, gr, wi, mn, qx, qy, ss, cl, cp, nx, ny)) → PX e u') : wpX_execute PX (nI t, 0, nI a, nI s, -1, nI h, nI n, mA, mB, oX, oY, gY, wD, pC, nI c, tk, tv, cb, sk, sv, vk, vv, bp, br, bh, bn, bs, bl, px, py, pm, cr, sn, sx, sy, sm, sp, dg) (nI a) := by
  have hR' := hR
  obtain ⟨hT, hS, hV, hF, hPO, hG, hSV⟩ := hR
  have ht := hT.1
  have hh := hS.1
  have hmn := zg_mn hG hpc
  have hi : vp_in (nI a) 100 := vp_in_nI (by omega) (by omega)
  have e : (nI a).toNatClampNeg = a := zc_i (by omega)
  have ek : tk (nI a).toNatClampNeg = 1 := by rw [e]; exact hk
  have ev : tv (nI a).toNatClampNeg = nI 15 := by rw [e]; exact hv
  have hpn := po_next hPO ha (by rw [hk]; decide) (by rw [hk]; decide)
  obtain ⟨z1, z2, z3, z4⟩ := ze_0 hE
  have z1 : 2 ≤ h := z1
  have hn12 := hF.1
  obtain ⟨p, hp, ep, hp2⟩ := zproc hS (j := h - 1 - 0) (by omega) (z2 rfl 0 (by decide))
  have hxc : sv (h - 1 - 1) = 0 ↔ sv (h - 1 - 1) = 0 := Iff.rfl
  have kb : ∀ Q : Int32 → Prop, Q (if sv (h - 1 - 1) = 0 then (0 : Int32) else 1) → wpY_begins Q (nI t, 0, nI h, nI n, nI a, 0, -1, nI (s + 1), nI c, 0, 0, 0, 0, tk, tv, dg, sk, sv, vk, vv, hw, fr, og, lf, st, la, fm, fc, gr, wi, mn, qx, qy, ss, cl, cp, nx, ny) (nI 15) := fun Q q => br_f (by decide) (br_f (by decide) (br_f (by decide) (br_t rfl (y_top (j := 1) rfl rfl hh (by omega) ((zh Q _ _ _).mpr q)))))
  have Yct : ∀ PY : SY → Prop, (((if sv (h - 1 - 1) = 0 then (0 : Int32) else 1) = 0 → PY (nI t, 0, nI (h - 2), nI n, nI a + 1, 0, -1, nI (s + 1), nI c, 0, 0, 0, 0, tk, tv, dg, sk, sv, vk, vv, hw, fr, og, lf, st, la, fm, fc, gr, wi, mn, qx, qy, ss, cl, cp, nx, ny)) ∧ (¬ (if sv (h - 1 - 1) = 0 then (0 : Int32) else 1) = 0 → wpY_enter (fun u => match u with | (yt₁, yo₁, yh₁, yi₁, ya₁, ye₁, yp₁, ys₁, yc₁, nw₁, gn₁, bg₁, wd₁, tk₁, tv₁, dg₁, sk₁, sv₁, vk₁, vv₁, hw₁, fr₁, og₁, lf₁, st₁, la₁, fm₁, fc₁, gr₁, wi₁, mn₁, qx₁, qy₁, ss₁, cl₁, cp₁, nx₁, ny₁) => wY_control_289 PY (if sv (h - 1 - 1) = 0 then (0 : Int32) else 1) yt₁ yo₁ yh₁ yi₁ ya₁ ye₁ yp₁ ys₁ yc₁ nw₁ gn₁ bg₁ wd₁ tk₁ tv₁ dg₁ sk₁ sv₁ vk₁ vv₁ hw₁ fr₁ og₁ lf₁ st₁ la₁ fm₁ fc₁ gr₁ wi₁ mn₁ qx₁ qy₁ ss₁ cl₁ cp₁ nx₁ ny₁) (nI t, 0, nI (h - 2), nI n, nI a, 0, -1, nI (s + 1), nI c, 0, 0, 0, 0, tk, tv, dg, sk, sv, vk, vv, hw, fr, og, lf, st, la, fm, fc, gr, wi, mn, qx, qy, ss, cl, cp, nx, ny) 0 (sv (h - 1 - 0)) 0 0 0)) → wpY_control PY (nI t, 0, nI h, nI n, nI a, 0, -1, nI (s + 1), nI c, 0, 0, 0, 0, tk, tv, dg, sk, sv, vk, vv, hw, fr, og, lf, st, la, fm, fc, gr, wi, mn, qx, qy, ss, cl, cp, nx, ny) (nI 15) := by
    intro PY k
    refine br_f (by decide) (y_top (j := 0) rfl rfl hh (by omega) ?_)
    unfold wY_control_15
    refine kb _ ?_
    exact br_f (by decide) (br_t rfl (nm_r (pk_sub (b := 2) z1) (br_c (fun q => br_t q (nm_e (k.1 q))) (fun q => k.2 q))))
  refine nm_r (nI_1 s) (nm_r (nI_1 a) ⟨hi, br_t ek ⟨hi, nm_r ev (x_oe0 (by decide) hh hp48 rfl hpc hE (br_t rfl (br_t (by decide) (br_f (by decide) (br_f (by decide) (br_f (by decide) (br_f (by decide) ?_)))))))⟩⟩)
  unfold wpX_control
  refine x_operand (j := 0) rfl rfl hh (by omega) (x_operand (j := 1) rfl rfl hh (by omega) (x_operandA (j := 2) rfl rfl hh (by omega) (fun _ => br_f (by decide) (br_f (by decide) (br_f (by decide) (br_t rfl ?_))))))
  by_cases q0 : sv (h - 1 - 1) = 0
  · refine br_t (hxc.mpr q0) (nm_r (pk_sub (b := 2) z1) (H 0 _ (nI t, 0, nI (h - 2), nI n, nI a + 1, 0, -1, nI (s + 1), nI c, 0, 0, 0, 0, tk, tv, dg, sk, sv, vk, vv, hw, fr, og, lf, st, la, fm, fc, gr, wi, mn, qx, qy, ss, cl, cp, nx, ny) (zs_ok ⟨hT, zst_le hS (by omega), hV, hF, hpn, hG, hSV⟩ rfl (nI_1 a) rfl rfl rfl rfl rfl rfl) (fun PY hp' => ?_)))
    refine ⟨hi, nm_r ev ⟨hi, nm_r ek (br_f (by decide) (br_f (by decide) (br_f (by decide) (br_t rfl ?_))))⟩⟩
    unfold wY_execute_245 wpY_operate
    refine y_check (by decide) hh hp48 (zst_k hS) rfl hmn (fun z => absurd hE z) (fun _ z => absurd z (by decide)) (fun _ _ _ => y_ck87 rfl hh z1 hmn hp48 (by decide) (by decide) (by decide) (by decide) (by decide) (by decide) (by decide) (by decide) (by decide) (by decide) (by decide) (y_ck335b (b := (if sv (h - 1 - 1) = 0 then (0 : Int32) else 1)) (n := n) rfl (by omega) kb (fun _ z => absurd (if_pos q0) z) (fun _ => br_t rfl ?_)))
    exact br_t (by decide) (br_f (by decide) (Yct _ (br_t (if_pos q0) hp')))
  · refine br_f (fun z => q0 (hxc.mp z)) ?_
    by_cases h12 : n = 12
    · refine x_beginF (congrArg nI h12) (H 9 _ (nI t, 0, nI h, nI n, nI a, 9, -1, nI (s + 1), nI c, 0, 0, 0, 0, tk, tv, dg, sk, sv, vk, vv, hw, fr, og, lf, st, la, fm, fc, gr, wi, mn, qx, qy, ss, cl, cp, nx, ny) (zs_er hR' (by decide)) (fun PY hp' => ?_))
      refine ⟨hi, nm_r ev ⟨hi, nm_r ek (br_f (by decide) (br_f (by decide) (br_f (by decide) (br_t rfl ?_))))⟩⟩
      unfold wY_execute_245 wpY_operate
      refine y_check (by decide) hh hp48 (zst_k hS) rfl hmn (fun z => absurd hE z) (fun _ z => absurd z (by decide)) (fun _ _ _ => y_ck87 rfl hh z1 hmn hp48 (by decide) (by decide) (by decide) (by decide) (by decide) (by decide) (by decide) (by decide) (by decide) (by decide) (by decide) (y_ck335b (b := (if sv (h - 1 - 1) = 0 then (0 : Int32) else 1)) (n := n) rfl (by omega) kb (fun _ _ => br_f (by decide) hp') (fun z => absurd ⟨h12, by rw [if_neg q0]; decide⟩ z)))
    · refine x_begin rfl (by omega) ep (pk_sub (b := 2) z1) (by decide) (H 0 _ (nI t, 0, nI (h - 2), nI (n + 1), nI (p + 1), 0, -1, nI (s + 1), nI c, 0, 0, 0, 0, tk, tv, dg, sk, sv, vk, vv, upd hw n 0, upd fr n (nI (p + 1)), upd og n (nI a), upd lf n 0, upd st n 0, upd la n 0, fm, fc, gr, wi, mn, qx, qy, ss, cl, cp, nx, ny) (zs_ok ⟨hT, zst_le hS (by omega), hV, zfr_push hF (by omega) hp hp2 hpn (fun q => absurd q (by decide)) (fun q => absurd q (by decide)), po_in hT hp hp2, hG, hSV⟩ rfl rfl rfl rfl rfl rfl rfl rfl) (fun PY hp' => ?_))
      refine ⟨hi, nm_r ev ⟨hi, nm_r ek (br_f (by decide) (br_f (by decide) (br_f (by decide) (br_t rfl ?_))))⟩⟩
      unfold wY_execute_245 wpY_operate
      refine y_check (by decide) hh hp48 (zst_k hS) rfl hmn (fun z => absurd hE z) (fun _ z => absurd z (by decide)) (fun _ _ _ => y_ck87 rfl hh z1 hmn hp48 (by decide) (by decide) (by decide) (by decide) (by decide) (by decide) (by decide) (by decide) (by decide) (by decide) (by decide) (y_ck335b (b := (if sv (h - 1 - 1) = 0 then (0 : Int32) else 1)) (n := n) rfl (by omega) kb (fun z _ => absurd z h12) (fun _ => br_t rfl ?_)))
      refine br_t (by decide) (br_f (by decide) (Yct _ (br_f (by rw [if_neg q0]; decide) ?_)))
      exact y_enter rfl (by omega) ep (br_f (by rw [if_neg q0]; decide) hp')
theorem st_repeat {t h n a c s pc : Nat} {PX : Int32 → SX → Prop} (hR : ZR t h n a c mA mB oX oY gY wD pC tk tv cb sk sv vk vv bp br bh bn bs bl px py pm cr sn sx sy sm sp hw fr og lf st la fm fc gr wi mn qx qy ss cl cp) (ha : a < t) (hk : tk a = 1) (hv : tv a = nI 17) (hpc : pC = nI pc) (hp48 : pc ≤ 48) (hE : ZE1 17 h sk pc = 0)
    (H : ∀ (e : Int32) (u' : SX) (v' : SY), ZStep a (s + 1) e u' v' → (∀ PY : SY → Prop, PY v' → wpY_execute PY (nI t, 0, nI h, nI n, nI a, 0, -1, nI (s + 1), nI c, nw, gn, bg, wd, tk, tv, dg, sk, sv, vk, vv, hw, fr, og, lf, st, la, fm, fc, gr, wi, mn, qx, qy, ss, cl, cp, nx, ny)) → PX e u') : wpX_execute PX (nI t, 0, nI a, nI s, -1, nI h, nI n, mA, mB, oX, oY, gY, wD, pC, nI c, tk, tv, cb, sk, sv, vk, vv, bp, br, bh, bn, bs, bl, px, py, pm, cr, sn, sx, sy, sm, sp, dg) (nI a) := by
  have hR' := hR
  obtain ⟨hT, hS, hV, hF, hPO, hG, hSV⟩ := hR
  have ht := hT.1
  have hh := hS.1
  have hmn := zg_mn hG hpc
  have hi : vp_in (nI a) 100 := vp_in_nI (by omega) (by omega)
  have e : (nI a).toNatClampNeg = a := zc_i (by omega)
  have ek : tk (nI a).toNatClampNeg = 1 := by rw [e]; exact hk
  have ev : tv (nI a).toNatClampNeg = nI 17 := by rw [e]; exact hv
  have hpn := po_next hPO ha (by rw [hk]; decide) (by rw [hk]; decide)
  obtain ⟨z1, z2, z3, z4⟩ := ze_0 hE
  have z1 : 2 ≤ h := z1
  have hn12 := hF.1
  obtain ⟨p, hp, ep, hp2⟩ := zproc hS (j := h - 1 - 0) (by omega) (z2 rfl 0 (by decide))
  have hxc : sv (h - 1 - 1) < 1 ↔ sv (h - 1 - 1) ≤ 0 := by rw [zt_lt, zt_le, z32_1, z32_0]; omega
  have kb : ∀ Q : Int32 → Prop, Q (if sv (h - 1 - 1) ≤ 0 then (0 : Int32) else 1) → wpY_begins Q (nI t, 0, nI h, nI n, nI a, 0, -1, nI (s + 1), nI c, 0, 0, 0, 0, tk, tv, dg, sk, sv, vk, vv, hw, fr, og, lf, st, la, fm, fc, gr, wi, mn, qx, qy, ss, cl, cp, nx, ny) (nI 17) := fun Q q => br_f (by decide) (br_f (by decide) (br_f (by decide) (br_f (by decide) (br_t rfl (y_top (j := 1) rfl rfl hh (by omega) ((zh Q _ _ _).mpr q))))))
  have Yct : ∀ PY : SY → Prop, (((if sv (h - 1 - 1) ≤ 0 then (0 : Int32) else 1) = 0 → PY (nI t, 0, nI (h - 2), nI n, nI a + 1, 0, -1, nI (s + 1), nI c, 0, 0, 0, 0, tk, tv, dg, sk, sv, vk, vv, hw, fr, og, lf, st, la, fm, fc, gr, wi, mn, qx, qy, ss, cl, cp, nx, ny)) ∧ (¬ (if sv (h - 1 - 1) ≤ 0 then (0 : Int32) else 1) = 0 → wpY_enter (fun u => match u with | (yt₁, yo₁, yh₁, yi₁, ya₁, ye₁, yp₁, ys₁, yc₁, nw₁, gn₁, bg₁, wd₁, tk₁, tv₁, dg₁, sk₁, sv₁, vk₁, vv₁, hw₁, fr₁, og₁, lf₁, st₁, la₁, fm₁, fc₁, gr₁, wi₁, mn₁, qx₁, qy₁, ss₁, cl₁, cp₁, nx₁, ny₁) => wY_control_289 PY (if sv (h - 1 - 1) ≤ 0 then (0 : Int32) else 1) yt₁ yo₁ yh₁ yi₁ ya₁ ye₁ yp₁ ys₁ yc₁ nw₁ gn₁ bg₁ wd₁ tk₁ tv₁ dg₁ sk₁ sv₁ vk₁ vv₁ hw₁ fr₁ og₁ lf₁ st₁ la₁ fm₁ fc₁ gr₁ wi₁ mn₁ qx₁ qy₁ ss₁ cl₁ cp₁ nx₁ ny₁) (nI t, 0, nI (h - 2), nI n, nI a, 0, -1, nI (s + 1), nI c, 0, 0, 0, 0, tk, tv, dg, sk, sv, vk, vv, hw, fr, og, lf, st, la, fm, fc, gr, wi, mn, qx, qy, ss, cl, cp, nx, ny) 1 (sv (h - 1 - 0)) (sv (h - 1 - 1)) 0 0)) → wpY_control PY (nI t, 0, nI h, nI n, nI a, 0, -1, nI (s + 1), nI c, 0, 0, 0, 0, tk, tv, dg, sk, sv, vk, vv, hw, fr, og, lf, st, la, fm, fc, gr, wi, mn, qx, qy, ss, cl, cp, nx, ny) (nI 17) := by
    intro PY k
    refine br_f (by decide) (y_top (j := 0) rfl rfl hh (by omega) ?_)
    unfold wY_control_15
    refine kb _ ?_
    exact br_f (by decide) (br_f (by decide) (br_f (by decide) (br_t rfl (y_top (j := 1) rfl rfl hh (by omega) (nm_r (pk_sub (b := 2) z1) (br_c (fun q => br_t q (nm_e (k.1 q))) (fun q => k.2 q)))))))
  refine nm_r (nI_1 s) (nm_r (nI_1 a) ⟨hi, br_t ek ⟨hi, nm_r ev (x_oe0 (by decide) hh hp48 rfl hpc hE (br_t rfl (br_t (by decide) (br_f (by decide) (br_f (by decide) (br_f (by decide) (br_f (by decide) ?_)))))))⟩⟩)
  unfold wpX_control
  refine x_operand (j := 0) rfl rfl hh (by omega) (x_operand (j := 1) rfl rfl hh (by omega) (x_operandA (j := 2) rfl rfl hh (by omega) (fun _ => br_f (by decide) (br_f (by decide) (br_f (by decide) (br_f (by decide) (br_f (by decide) (br_t rfl ?_))))))))
  by_cases q0 : sv (h - 1 - 1) ≤ 0
  · refine br_t (hxc.mpr q0) (nm_r (pk_sub (b := 2) z1) (H 0 _ (nI t, 0, nI (h - 2), nI n, nI a + 1, 0, -1, nI (s + 1), nI c, 0, 0, 0, 0, tk, tv, dg, sk, sv, vk, vv, hw, fr, og, lf, st, la, fm, fc, gr, wi, mn, qx, qy, ss, cl, cp, nx, ny) (zs_ok ⟨hT, zst_le hS (by omega), hV, hF, hpn, hG, hSV⟩ rfl (nI_1 a) rfl rfl rfl rfl rfl rfl) (fun PY hp' => ?_)))
    refine ⟨hi, nm_r ev ⟨hi, nm_r ek (br_f (by decide) (br_f (by decide) (br_f (by decide) (br_t rfl ?_))))⟩⟩
    unfold wY_execute_245 wpY_operate
    refine y_check (by decide) hh hp48 (zst_k hS) rfl hmn (fun z => absurd hE z) (fun _ z => absurd z (by decide)) (fun _ _ _ => y_ck87 rfl hh z1 hmn hp48 (by decide) (by decide) (by decide) (by decide) (by decide) (by decide) (by decide) (by decide) (by decide) (by decide) (by decide) (y_ck335b (b := (if sv (h - 1 - 1) ≤ 0 then (0 : Int32) else 1)) (n := n) rfl (by omega) kb (fun _ z => absurd (if_pos q0) z) (fun _ => br_t rfl ?_)))
    exact br_t (by decide) (br_f (by decide) (Yct _ (br_t (if_pos q0) hp')))
  · refine br_f (fun z => q0 (hxc.mp z)) ?_
    by_cases h12 : n = 12
    · refine x_beginF (congrArg nI h12) (H 9 _ (nI t, 0, nI h, nI n, nI a, 9, -1, nI (s + 1), nI c, 0, 0, 0, 0, tk, tv, dg, sk, sv, vk, vv, hw, fr, og, lf, st, la, fm, fc, gr, wi, mn, qx, qy, ss, cl, cp, nx, ny) (zs_er hR' (by decide)) (fun PY hp' => ?_))
      refine ⟨hi, nm_r ev ⟨hi, nm_r ek (br_f (by decide) (br_f (by decide) (br_f (by decide) (br_t rfl ?_))))⟩⟩
      unfold wY_execute_245 wpY_operate
      refine y_check (by decide) hh hp48 (zst_k hS) rfl hmn (fun z => absurd hE z) (fun _ z => absurd z (by decide)) (fun _ _ _ => y_ck87 rfl hh z1 hmn hp48 (by decide) (by decide) (by decide) (by decide) (by decide) (by decide) (by decide) (by decide) (by decide) (by decide) (by decide) (y_ck335b (b := (if sv (h - 1 - 1) ≤ 0 then (0 : Int32) else 1)) (n := n) rfl (by omega) kb (fun _ _ => br_f (by decide) hp') (fun z => absurd ⟨h12, by rw [if_neg q0]; decide⟩ z)))
    · refine x_begin rfl (by omega) ep (pk_sub (b := 2) z1) (by decide) (H 0 _ (nI t, 0, nI (h - 2), nI (n + 1), nI (p + 1), 0, -1, nI (s + 1), nI c, 0, 0, 0, 0, tk, tv, dg, sk, sv, vk, vv, upd hw n 1, upd fr n (nI (p + 1)), upd og n (nI a), upd lf n (sv (h - 1 - 1)), upd st n 0, upd la n 0, fm, fc, gr, wi, mn, qx, qy, ss, cl, cp, nx, ny) (zs_ok ⟨hT, zst_le hS (by omega), hV, zfr_push hF (by omega) hp hp2 hpn (fun q => absurd q (by decide)) (fun _ => ⟨rfl, rfl, rfl⟩), po_in hT hp hp2, hG, hSV⟩ rfl rfl rfl rfl rfl rfl rfl rfl) (fun PY hp' => ?_))
      refine ⟨hi, nm_r ev ⟨hi, nm_r ek (br_f (by decide) (br_f (by decide) (br_f (by decide) (br_t rfl ?_))))⟩⟩
      unfold wY_execute_245 wpY_operate
      refine y_check (by decide) hh hp48 (zst_k hS) rfl hmn (fun z => absurd hE z) (fun _ z => absurd z (by decide)) (fun _ _ _ => y_ck87 rfl hh z1 hmn hp48 (by decide) (by decide) (by decide) (by decide) (by decide) (by decide) (by decide) (by decide) (by decide) (by decide) (by decide) (y_ck335b (b := (if sv (h - 1 - 1) ≤ 0 then (0 : Int32) else 1)) (n := n) rfl (by omega) kb (fun z _ => absurd z h12) (fun _ => br_t rfl ?_)))
      refine br_t (by decide) (br_f (by decide) (Yct _ (br_f (by rw [if_neg q0]; decide) ?_)))
      exact y_enter rfl (by omega) ep (br_f (by rw [if_neg q0]; decide) hp')
theorem st_for {t h n a c s pc : Nat} {PX : Int32 → SX → Prop} (hR : ZR t h n a c mA mB oX oY gY wD pC tk tv cb sk sv vk vv bp br bh bn bs bl px py pm cr sn sx sy sm sp hw fr og lf st la fm fc gr wi mn qx qy ss cl cp) (ha : a < t) (hk : tk a = 1) (hv : tv a = nI 18) (hpc : pC = nI pc) (hp48 : pc ≤ 48) (hE : ZE1 18 h sk pc = 0)
    (H : ∀ (e : Int32) (u' : SX) (v' : SY), ZStep a (s + 1) e u' v' → (∀ PY : SY → Prop, PY v' → wpY_execute PY (nI t, 0, nI h, nI n, nI a, 0, -1, nI (s + 1), nI c, nw, gn, bg, wd, tk, tv, dg, sk, sv, vk, vv, hw, fr, og, lf, st, la, fm, fc, gr, wi, mn, qx, qy, ss, cl, cp, nx, ny)) → PX e u') : wpX_execute PX (nI t, 0, nI a, nI s, -1, nI h, nI n, mA, mB, oX, oY, gY, wD, pC, nI c, tk, tv, cb, sk, sv, vk, vv, bp, br, bh, bn, bs, bl, px, py, pm, cr, sn, sx, sy, sm, sp, dg) (nI a) := by
  have hR' := hR
  obtain ⟨hT, hS, hV, hF, hPO, hG, hSV⟩ := hR
  have ht := hT.1
  have hh := hS.1
  have hmn := zg_mn hG hpc
  have hi : vp_in (nI a) 100 := vp_in_nI (by omega) (by omega)
  have e : (nI a).toNatClampNeg = a := zc_i (by omega)
  have ek : tk (nI a).toNatClampNeg = 1 := by rw [e]; exact hk
  have ev : tv (nI a).toNatClampNeg = nI 18 := by rw [e]; exact hv
  have hpn := po_next hPO ha (by rw [hk]; decide) (by rw [hk]; decide)
  obtain ⟨z1, z2, z3, z4⟩ := ze_0 hE
  have z1 : 4 ≤ h := z1
  have hn12 := hF.1
  obtain ⟨p, hp, ep, hp2⟩ := zproc hS (j := h - 1 - 0) (by omega) (z2 rfl 0 (by decide))
  have Yck : ∀ Q : Int32 → SY → Prop, (sv (h - 1 - 2) = 0 → Q 12 (nI t, 0, nI h, nI n, nI a, 0, -1, nI (s + 1), nI c, 0, 0, 0, 0, tk, tv, dg, sk, sv, vk, vv, hw, fr, og, lf, st, la, fm, fc, gr, wi, mn, qx, qy, ss, cl, cp, nx, ny)) → (sv (h - 1 - 2) ≠ 0 → wY_check_335 Q (nI 18) (nI t) 0 (nI h) (nI n) (nI a) 0 (-1) (nI (s + 1)) (nI c) 0 0 0 0 tk tv dg sk sv vk vv hw fr og lf st la fm fc gr wi mn qx qy ss cl cp nx ny) → wY_check_87 Q (nI 18) (nI (ztk 18)) (nI t) 0 (nI h) (nI n) (nI a) 0 (-1) (nI (s + 1)) (nI c) nw gn bg wd tk tv dg sk sv vk vv hw fr og lf st la fm fc gr wi mn qx qy ss cl cp nx ny := by
    intro Q k12 k
    refine y_plan0 (by decide) (by decide) (by decide) (br_f (by decide) (br_f (by decide) (br_f ?_ (br_f (by decide) (br_f (by decide) (y_top (j := 0) rfl rfl hh (by omega) (br_f (by decide) (br_f (by decide) (br_f (by decide) (br_f (by decide) (br_t rfl (y_top (j := 2) rfl rfl hh (by omega) (br_c (fun q => k12 q) (fun q => br_f (by decide) (br_t rfl (br_f (by decide) (k q)))))))))))))))))
    rw [hmn]
    show ¬ nI 48 < nI pc - nI 0 + nI 0
    rw [pk_sub (by omega), nI_add]
    exact nI_nlt (by omega) (by omega)
  have kb : ∀ Q : Int32 → Prop, Q (if zry (sv (h - 1 - 3)) (sv (h - 1 - 2)) (sv (h - 1 - 1)) = 0 then (0 : Int32) else 1) → wpY_begins Q (nI t, 0, nI h, nI n, nI a, 0, -1, nI (s + 1), nI c, 0, 0, 0, 0, tk, tv, dg, sk, sv, vk, vv, hw, fr, og, lf, st, la, fm, fc, gr, wi, mn, qx, qy, ss, cl, cp, nx, ny) (nI 18) := fun Q q => br_f (by decide) (br_f (by decide) (br_f (by decide) (br_f (by decide) (br_f (by decide) (br_t rfl (y_top (j := 3) rfl rfl hh (by omega) (y_top (j := 2) rfl rfl hh (by omega) (y_top (j := 1) rfl rfl hh (by omega) (y_reaches ((zh Q _ _ _).mpr q)))))))))) 
  have Yct : ∀ PY : SY → Prop, (((if zry (sv (h - 1 - 3)) (sv (h - 1 - 2)) (sv (h - 1 - 1)) = 0 then (0 : Int32) else 1) = 0 → PY (nI t, 0, nI (h - 4), nI n, nI a + 1, 0, -1, nI (s + 1), nI c, 0, 0, 0, 0, tk, tv, dg, sk, sv, vk, vv, hw, fr, og, lf, st, la, fm, fc, gr, wi, mn, qx, qy, ss, cl, cp, nx, ny)) ∧ (¬ (if zry (sv (h - 1 - 3)) (sv (h - 1 - 2)) (sv (h - 1 - 1)) = 0 then (0 : Int32) else 1) = 0 → wpY_put (fun u => match u with | (yt₁, yo₁, yh₁, yi₁, ya₁, ye₁, yp₁, ys₁, yc₁, nw₁, gn₁, bg₁, wd₁, tk₁, tv₁, dg₁, sk₁, sv₁, vk₁, vv₁, hw₁, fr₁, og₁, lf₁, st₁, la₁, fm₁, fc₁, gr₁, wi₁, mn₁, qx₁, qy₁, ss₁, cl₁, cp₁, nx₁, ny₁) => wpY_enter (fun u => match u with | (yt₁, yo₁, yh₁, yi₁, ya₁, ye₁, yp₁, ys₁, yc₁, nw₁, gn₁, bg₁, wd₁, tk₁, tv₁, dg₁, sk₁, sv₁, vk₁, vv₁, hw₁, fr₁, og₁, lf₁, st₁, la₁, fm₁, fc₁, gr₁, wi₁, mn₁, qx₁, qy₁, ss₁, cl₁, cp₁, nx₁, ny₁) => wY_control_234 PY (if zry (sv (h - 1 - 3)) (sv (h - 1 - 2)) (sv (h - 1 - 1)) = 0 then (0 : Int32) else 1) yt₁ yo₁ yh₁ yi₁ ya₁ ye₁ yp₁ ys₁ yc₁ nw₁ gn₁ bg₁ wd₁ tk₁ tv₁ dg₁ sk₁ sv₁ vk₁ vv₁ hw₁ fr₁ og₁ lf₁ st₁ la₁ fm₁ fc₁ gr₁ wi₁ mn₁ qx₁ qy₁ ss₁ cl₁ cp₁ nx₁ ny₁) (yt₁, yo₁, yh₁, yi₁, ya₁, ye₁, yp₁, ys₁, yc₁, nw₁, gn₁, bg₁, wd₁, tk₁, tv₁, dg₁, sk₁, sv₁, vk₁, vv₁, hw₁, fr₁, og₁, lf₁, st₁, la₁, fm₁, fc₁, gr₁, wi₁, mn₁, qx₁, qy₁, ss₁, cl₁, cp₁, nx₁, ny₁) 2 (sv (h - 1 - 0)) (sv (h - 1 - 3)) (sv (h - 1 - 2)) (sv (h - 1 - 1))) (nI t, 0, nI (h - 4), nI n, nI a, 0, -1, nI (s + 1), nI c, 0, 0, 0, 0, tk, tv, dg, sk, sv, vk, vv, hw, fr, og, lf, st, la, fm, fc, gr, wi, mn, qx, qy, ss, cl, cp, nx, ny) 0 (sv (h - 1 - 3)))) → wpY_control PY (nI t, 0, nI h, nI n, nI a, 0, -1, nI (s + 1), nI c, 0, 0, 0, 0, tk, tv, dg, sk, sv, vk, vv, hw, fr, og, lf, st, la, fm, fc, gr, wi, mn, qx, qy, ss, cl, cp, nx, ny) (nI 18) := by
    intro PY k
    refine br_f (by decide) (y_top (j := 0) rfl rfl hh (by omega) ?_)
    unfold wY_control_15
    refine kb _ ?_
    exact br_f (by decide) (br_f (by decide) (br_f (by decide) (br_f (by decide) (br_t rfl (y_top (j := 1) rfl rfl hh (by omega) (y_top (j := 2) rfl rfl hh (by omega) (y_top (j := 3) rfl rfl hh (by omega) (nm_r (pk_sub (b := 4) z1) (br_c (fun q => br_t q (nm_e (k.1 q))) (fun q => k.2 q))))))))))
  refine nm_r (nI_1 s) (nm_r (nI_1 a) ⟨hi, br_t ek ⟨hi, nm_r ev (x_oe0 (by decide) hh hp48 rfl hpc hE (br_t rfl (br_t (by decide) (br_f (by decide) (br_f (by decide) (br_f (by decide) (br_f (by decide) ?_)))))))⟩⟩)
  unfold wpX_control
  refine x_operand (j := 0) rfl rfl hh (by omega) (x_operand (j := 1) rfl rfl hh (by omega) (x_operand (j := 2) rfl rfl hh (by omega) (br_f (by decide) (br_f (by decide) (br_f (by decide) (br_f (by decide) (br_f (by decide) (br_f (by decide) (br_t rfl ?_)))))))))
  unfold wpX_beginFor
  refine x_operand (j := 3) rfl rfl hh (by omega) (x_operand (j := 2) rfl rfl hh (by omega) (x_operand (j := 1) rfl rfl hh (by omega) (x_operand (j := 0) rfl rfl hh (by omega) ?_)))
  by_cases hs0 : sv (h - 1 - 2) = 0
  · refine br_t hs0 (H 12 _ (nI t, 0, nI h, nI n, nI a, 12, -1, nI (s + 1), nI c, 0, 0, 0, 0, tk, tv, dg, sk, sv, vk, vv, hw, fr, og, lf, st, la, fm, fc, gr, wi, mn, qx, qy, ss, cl, cp, nx, ny) (zs_er hR' (by decide)) (fun PY hp' => ?_))
    refine ⟨hi, nm_r ev ⟨hi, nm_r ek (br_f (by decide) (br_f (by decide) (br_f (by decide) (br_t rfl ?_))))⟩⟩
    unfold wY_execute_245 wpY_operate
    refine y_check (by decide) hh hp48 (zst_k hS) rfl hmn (fun z => absurd hE z) (fun _ z => absurd z (by decide)) (fun _ _ _ => Yck _ (fun _ => br_f (by decide) hp') (fun z => absurd hs0 z))
  · refine br_f hs0 (x_isReached ?_)
    rw [zre_i]
    by_cases q0 : zry (sv (h - 1 - 3)) (sv (h - 1 - 2)) (sv (h - 1 - 1)) = 0
    · refine br_t q0 (nm_r (pk_sub (b := 4) z1) (H 0 _ (nI t, 0, nI (h - 4), nI n, nI a + 1, 0, -1, nI (s + 1), nI c, 0, 0, 0, 0, tk, tv, dg, sk, sv, vk, vv, hw, fr, og, lf, st, la, fm, fc, gr, wi, mn, qx, qy, ss, cl, cp, nx, ny) (zs_ok ⟨hT, zst_le hS (by omega), hV, hF, hpn, hG, hSV⟩ rfl (nI_1 a) rfl rfl rfl rfl rfl rfl) (fun PY hp' => ?_)))
      refine ⟨hi, nm_r ev ⟨hi, nm_r ek (br_f (by decide) (br_f (by decide) (br_f (by decide) (br_t rfl ?_))))⟩⟩
      unfold wY_execute_245 wpY_operate
      refine y_check (by decide) hh hp48 (zst_k hS) rfl hmn (fun z => absurd hE z) (fun _ z => absurd z (by decide)) (fun _ _ _ => Yck _ (fun z => absurd z hs0) (fun _ => y_ck335b (b := (if zry (sv (h - 1 - 3)) (sv (h - 1 - 2)) (sv (h - 1 - 1)) = 0 then (0 : Int32) else 1)) (n := n) rfl (by omega) kb (fun _ z => absurd (if_pos q0) z) (fun _ => br_t rfl ?_)))
      exact br_t (by decide) (br_f (by decide) (Yct _ (br_t (if_pos q0) hp')))
    · refine br_f q0 ?_
      by_cases h12 : n = 12
      · refine x_beginF (congrArg nI h12) (H 9 _ (nI t, 0, nI h, nI n, nI a, 9, -1, nI (s + 1), nI c, 0, 0, 0, 0, tk, tv, dg, sk, sv, vk, vv, hw, fr, og, lf, st, la, fm, fc, gr, wi, mn, qx, qy, ss, cl, cp, nx, ny) (zs_er hR' (by decide)) (fun PY hp' => ?_))
        refine ⟨hi, nm_r ev ⟨hi, nm_r ek (br_f (by decide) (br_f (by decide) (br_f (by decide) (br_t rfl ?_))))⟩⟩
        unfold wY_execute_245 wpY_operate
        refine y_check (by decide) hh hp48 (zst_k hS) rfl hmn (fun z => absurd hE z) (fun _ z => absurd z (by decide)) (fun _ _ _ => Yck _ (fun z => absurd z hs0) (fun _ => y_ck335b (b := (if zry (sv (h - 1 - 3)) (sv (h - 1 - 2)) (sv (h - 1 - 1)) = 0 then (0 : Int32) else 1)) (n := n) rfl (by omega) kb (fun _ _ => br_f (by decide) hp') (fun z => absurd ⟨h12, by rw [if_neg q0]; decide⟩ z)))
      · refine x_begin2 rfl (by omega) ep (pk_sub (b := 4) z1) (by omega) (H 0 _ (nI t, 0, nI (h - 4 + 1), nI (n + 1), nI (p + 1), 0, -1, nI (s + 1), nI c, 0, 0, 0, 0, tk, tv, dg, upd sk (h - 4) 0, upd sv (h - 4) (sv (h - 1 - 3)), vk, vv, upd hw n 2, upd fr n (nI (p + 1)), upd og n (nI a), upd lf n (sv (h - 1 - 3)), upd st n (sv (h - 1 - 2)), upd la n (sv (h - 1 - 1)), fm, fc, gr, wi, mn, qx, qy, ss, cl, cp, nx, ny) (zs_ok ⟨hT, zst_put (zst_le hS (by omega)) (by omega) zv_0, hV, zfr_push hF (by omega) hp hp2 hpn (fun _ => ⟨rfl, rfl, rfl⟩) (fun q => absurd q (by decide)), po_in hT hp hp2, hG, hSV⟩ rfl rfl rfl rfl rfl rfl rfl rfl) (fun PY hp' => ?_))
        refine ⟨hi, nm_r ev ⟨hi, nm_r ek (br_f (by decide) (br_f (by decide) (br_f (by decide) (br_t rfl ?_))))⟩⟩
        unfold wY_execute_245 wpY_operate
        refine y_check (by decide) hh hp48 (zst_k hS) rfl hmn (fun z => absurd hE z) (fun _ z => absurd z (by decide)) (fun _ _ _ => Yck _ (fun z => absurd z hs0) (fun _ => y_ck335b (b := (if zry (sv (h - 1 - 3)) (sv (h - 1 - 2)) (sv (h - 1 - 1)) = 0 then (0 : Int32) else 1)) (n := n) rfl (by omega) kb (fun z _ => absurd z h12) (fun _ => br_t rfl ?_)))
        refine br_t (by decide) (br_f (by decide) (Yct _ (br_f (by rw [if_neg q0]; decide) ?_)))
        exact y_put rfl (by omega) (y_enter rfl (by omega) ep (br_f (by rw [if_neg q0]; decide) hp'))
theorem st_exit {t h n a c s pc : Nat} {PX : Int32 → SX → Prop} (hR : ZR t h n a c mA mB oX oY gY wD pC tk tv cb sk sv vk vv bp br bh bn bs bl px py pm cr sn sx sy sm sp hw fr og lf st la fm fc gr wi mn qx qy ss cl cp) (ha : a < t) (hk : tk a = 1) (hv : tv a = nI 20) (hpc : pC = nI pc) (hp48 : pc ≤ 48) (hE : ZE1 20 h sk pc = 0)
    (H : ∀ (e : Int32) (u' : SX) (v' : SY), ZStep a (s + 1) e u' v' → (∀ PY : SY → Prop, PY v' → wpY_execute PY (nI t, 0, nI h, nI n, nI a, 0, -1, nI (s + 1), nI c, nw, gn, bg, wd, tk, tv, dg, sk, sv, vk, vv, hw, fr, og, lf, st, la, fm, fc, gr, wi, mn, qx, qy, ss, cl, cp, nx, ny)) → PX e u') : wpX_execute PX (nI t, 0, nI a, nI s, -1, nI h, nI n, mA, mB, oX, oY, gY, wD, pC, nI c, tk, tv, cb, sk, sv, vk, vv, bp, br, bh, bn, bs, bl, px, py, pm, cr, sn, sx, sy, sm, sp, dg) (nI a) := by
  have hR' := hR
  obtain ⟨hT, hS, hV, hF, hPO, hG, hSV⟩ := hR
  have ht := hT.1
  have hh := hS.1
  have hmn := zg_mn hG hpc
  have hi : vp_in (nI a) 100 := vp_in_nI (by omega) (by omega)
  have e : (nI a).toNatClampNeg = a := zc_i (by omega)
  have ek : tk (nI a).toNatClampNeg = 1 := by rw [e]; exact hk
  have ev : tv (nI a).toNatClampNeg = nI 20 := by rw [e]; exact hv
  have hpn := po_next hPO ha (by rw [hk]; decide) (by rw [hk]; decide)
  obtain ⟨z1, z2, z3, z4⟩ := ze_0 hE
  have z1 : 0 ≤ h := z1
  have hn12 := hF.1
  have Yck : ∀ Q : Int32 → SY → Prop, wpY_loopInside (fun r => (0 ≤ r → wY_check_335 Q (nI 20) (nI t) 0 (nI h) (nI n) (nI a) 0 (-1) (nI (s + 1)) (nI c) 0 0 0 0 tk tv dg sk sv vk vv hw fr og lf st la fm fc gr wi mn qx qy ss cl cp nx ny) ∧ (¬ 0 ≤ r → Q 8 (nI t, 0, nI h, nI n, nI a, 0, -1, nI (s + 1), nI c, 0, 0, 0, 0, tk, tv, dg, sk, sv, vk, vv, hw, fr, og, lf, st, la, fm, fc, gr, wi, mn, qx, qy, ss, cl, cp, nx, ny))) (nI t, 0, nI h, nI n, nI a, 0, -1, nI (s + 1), nI c, 0, 0, 0, 0, tk, tv, dg, sk, sv, vk, vv, hw, fr, og, lf, st, la, fm, fc, gr, wi, mn, qx, qy, ss, cl, cp, nx, ny) → wY_check_87 Q (nI 20) (nI (ztk 20)) (nI t) 0 (nI h) (nI n) (nI a) 0 (-1) (nI (s + 1)) (nI c) nw gn bg wd tk tv dg sk sv vk vv hw fr og lf st la fm fc gr wi mn qx qy ss cl cp nx ny := by
    intro Q k
    refine y_plan0 (by decide) (by decide) (by decide) (br_f (by decide) (br_f (by decide) (br_f ?_ (br_f (by decide) (br_t (by decide) (br_f (by decide) (br_f (by decide) (br_f (by decide) (br_f (by decide) (br_f (by decide) (br_f (by decide) (br_t rfl (br_t rfl k)))))))))))))
    rw [hmn]
    show ¬ nI 48 < nI pc - nI 0 + nI 0
    rw [pk_sub (by omega), nI_add]
    exact nI_nlt (by omega) (by omega)
  have ehw : ∀ j, j < n → hw j = bh j := fun j hj => (hF.2 j hj).2.1
  refine nm_r (nI_1 s) (nm_r (nI_1 a) ⟨hi, br_t ek ⟨hi, nm_r ev (x_oe0 (by decide) hh hp48 rfl hpc hE (br_t rfl (br_t (by decide) (br_f (by decide) (br_f (by decide) (br_f (by decide) (br_f (by decide) ?_)))))))⟩⟩)
  unfold wpX_control
  refine x_operandA (j := 0) rfl rfl hh (by omega) (fun _ => x_operandA (j := 1) rfl rfl hh (by omega) (fun _ => x_operandA (j := 2) rfl rfl hh (by omega) (fun _ => br_f (by decide) (br_t (by decide) ?_))))
  unfold wpX_leaveLoop
  rcases zlast bh n with hz | ⟨m, hm, hmz, hz⟩
  · refine nm_e ⟨n + 1, x_ll_none (H 8 _ (nI t, 0, nI h, nI n, nI a, 8, -1, nI (s + 1), nI c, 0, 0, 0, 0, tk, tv, dg, sk, sv, vk, vv, hw, fr, og, lf, st, la, fm, fc, gr, wi, mn, qx, qy, ss, cl, cp, nx, ny) (zs_er hR' (by decide)) (fun PY hp' => ?_)) n hn12 hz⟩
    refine ⟨hi, nm_r ev ⟨hi, nm_r ek (br_f (by decide) (br_f (by decide) (br_f (by decide) (br_t rfl ?_))))⟩⟩
    unfold wY_execute_245 wpY_operate
    refine y_check (by decide) hh hp48 (zst_k hS) rfl hmn (fun z => absurd hE z) (fun _ z => absurd z (by decide)) (fun _ _ _ => Yck _ (nm_e ⟨n + 1, y_ll_none ?_ n hn12 (fun j hj => by rw [ehw j hj]; exact hz j hj)⟩))
    exact br_f (by decide) (br_f (by decide) hp')
  · obtain ⟨⟨p, o, hp, hp2, e_bp, e_fr, e_br, e_og, hpo⟩, _⟩ := hF.2 m hm
    obtain ⟨d, rfl⟩ : ∃ d, n = m + d + 1 := ⟨n - m - 1, by omega⟩
    have hwz : ∀ j, m < j → j ≤ m + d → hw j = 0 := fun j h1 h2 => by rw [ehw j (by omega)]; exact hz j h1 (by omega)
    have hwm : hw m ≠ 0 := by rw [ehw m hm]; exact hmz
    refine nm_r (nI_pred (m + d)) ⟨d + 1, x_ll_some hmz (H 0 _ (nI t, 0, nI h, nI m, nI (o + 1), 0, -1, nI (s + 1), nI c, 0, 0, 0, 0, tk, tv, dg, sk, sv, vk, vv, hw, fr, og, lf, st, la, fm, fc, gr, wi, mn, qx, qy, ss, cl, cp, nx, ny) (zs_ok ⟨hT, hS, hV, zfr_le hF (by omega), hpo, hG, hSV⟩ e_br rfl rfl rfl rfl rfl rfl rfl) (fun PY hp' => ?_)) d (by omega) (fun j h1 h2 => hz j h1 (by omega))⟩
    refine ⟨hi, nm_r ev ⟨hi, nm_r ek (br_f (by decide) (br_f (by decide) (br_f (by decide) (br_t rfl ?_))))⟩⟩
    unfold wY_execute_245 wpY_operate
    refine y_check (by decide) hh hp48 (zst_k hS) rfl hmn (fun z => absurd hE z) (fun _ z => absurd z (by decide)) (fun _ _ _ => Yck _ (nm_r (nI_pred (m + d)) ⟨d + 1, y_ll_some hwm ?_ d (by omega) hwz⟩))
    refine ql_t 0 m (by omega) (y_ck335n (by decide) (by decide) (by decide) (by decide) (by decide) (by decide) (br_t rfl (br_t (by decide) (br_f (by decide) (br_t rfl ?_)))))
    unfold wY_control_15
    have kb : ∀ Q : Int32 → Prop, Q 0 → wpY_begins Q (nI t, 0, nI h, nI (m + d + 1), nI a, 0, -1, nI (s + 1), nI c, 0, 0, 0, 0, tk, tv, dg, sk, sv, vk, vv, hw, fr, og, lf, st, la, fm, fc, gr, wi, mn, qx, qy, ss, cl, cp, nx, ny) (nI 20) := fun Q q => br_f (by decide) (br_f (by decide) (br_f (by decide) (br_f (by decide) (br_f (by decide) (br_f (by decide) q)))))
    refine kb _ (br_f (by decide) (br_f (by decide) (br_f (by decide) (br_f (by decide) (br_f (by decide) (br_f (by decide) (nm_r (nI_pred (m + d)) ⟨d + 1, y_ll_some hwm ⟨vp_in_nI (by omega) (by omega), nm_r (show og (nI m).toNatClampNeg + 1 = nI (o + 1) by rw [zc_i (by omega), e_og, nI_1]) hp'⟩ d (by omega) hwz⟩)))))))
end
end
section
section
variable {tc ob ps su ep sd bc mA mB oX oY gY wD pC sC yt yo yh yi ya ye yp ys yc nw gn bg wd : Int32} {tk tv cb sk sv vk vv bp br bh bn bs bl px py pm cr sn sx sy sm sp dg hw fr og lf st la fm fc gr wi mn qx qy ss cl cp nx ny : Nat → Int32}
variable {fm' fc' gr' wi' mn' qx' qy' ss' cl' cp' sn' sx' sy' sm' sp' : Nat → Int32}
theorem zx_fun {f f' : Nat → Int32} {o b : Nat} (h : ∀ i, b ≤ i → f' i = f i) (hb : b ≤ o) : (fun k => f' (o + k)) = (fun k => f (o + k)) := funext (fun k => h (o + k) (by omega))
/-- the saved states don't feel what happens to the current one -/
theorem zsv_up {n : Nat} (h : ZSV n sn sx sy sm sp fm fc gr wi mn qx qy ss cl cp) (e1 : ∀ i, 6 ≤ i → fm' i = fm i) (e2 : ∀ i, 1 ≤ i → fc' i = fc i) (e3 : ∀ i, 1 ≤ i → gr' i = gr i) (e4 : ∀ i, 1 ≤ i → wi' i = wi i) (e5 : ∀ i, 1 ≤ i → mn' i = mn i)
    (e6 : ∀ i, 48 ≤ i → qx' i = qx i) (e7 : ∀ i, 48 ≤ i → qy' i = qy i) (e8 : ∀ i, 48 ≤ i → ss' i = ss i) (e9 : ∀ i, 48 ≤ i → cl' i = cl i) (e10 : ∀ i, 576 ≤ i → cp' i = cp i) : ZSV n sn sx sy sm sp fm' fc' gr' wi' mn' qx' qy' ss' cl' cp' := by
  refine ⟨h.1, fun c hc => ?_⟩
  have := h.2 c hc
  rw [zx_fun e1 (by omega), e2 _ (by omega), e3 _ (by omega), e4 _ (by omega), e5 _ (by omega), zx_fun e6 (by omega), zx_fun e7 (by omega), zx_fun e8 (by omega), zx_fun e9 (by omega), zx_fun e10 (by omega)]
  exact this
theorem zr_i {f : Nat → Int32} {b : Nat} : ∀ i, b ≤ i → f i = f i := fun _ _ => rfl
theorem zr_u {f : Nat → Int32} {x : Int32} : ∀ i, 1 ≤ i → upd f 0 x i = f i := fun i hi => pk_un (by omega)
theorem zgs_gray {a b ox oy g w m F G W M g' : Int32} {f : Nat → Int32} (h : ZGS a b ox oy g w m px py pm cr f F G W M qx qy ss cl cp) : ZGS a b ox oy g' w m px py pm cr f F g' W M qx qy ss cl cp := ⟨h.1, rfl, h.2.2⟩
theorem zgs_width {a b ox oy g w m F G W M w' : Int32} {f : Nat → Int32} (h : ZGS a b ox oy g w m px py pm cr f F G W M qx qy ss cl cp) : ZGS a b ox oy g w' m px py pm cr f F G w' M qx qy ss cl cp := ⟨h.1, h.2.1, rfl, h.2.2.2⟩
theorem zgs_clip {a b ox oy g w m F G W M : Int32} {f cr' : Nat → Int32} (h : ZGS a b ox oy g w m px py pm cr f F G W M qx qy ss cl cp) (hc : ZCP cr' cp') : ZGS a b ox oy g w m px py pm cr' f F G W M qx qy ss cl cp' := ⟨h.1, h.2.1, h.2.2.1, h.2.2.2.1, h.2.2.2.2.1, hc⟩
theorem zgs_path {a b ox oy g w m F G W M : Int32} {f px' py' pm' : Nat → Int32} {q : Nat} (h : ZGS a b ox oy g w m px py pm cr f F G W M qx qy ss cl cp) (hp : ZPT q px' py' pm' qx' qy' ss' cl') : ZGS a b ox oy g w (nI q) px' py' pm' cr f F G W (nI q) qx' qy' ss' cl' cp := ⟨h.1, h.2.1, h.2.2.1, rfl, ⟨q, rfl, hp⟩, h.2.2.2.2.2⟩
theorem zgs_map {a b ox oy g w m F G W M a' b' ox' oy' F' : Int32} {f f' : Nat → Int32} (h : ZGS a b ox oy g w m px py pm cr f F G W M qx qy ss cl cp) (hg : ZGR a' b' ox' oy' f' F') : ZGS a' b' ox' oy' g w m px py pm cr f' F' G W M qx qy ss cl cp := ⟨hg, h.2⟩
/-! the factor -/
theorem zneg_le {n : Nat} (h : n ≤ 64) : (-nI n).toInt = -(n : Int) := (by decide +kernel : ∀ n, n < 65 → (-nI n).toInt = -(n : Int)) n (by omega)
theorem x_factor {post : Int32 → Prop} {F : Int32} {f : Nat → Int32} (hg : ZGR mA mB oX oY f F) (k : post F) : wpX_factor post (tc, ob, ps, su, ep, sd, bc, mA, mB, oX, oY, gY, wD, pC, sC, tk, tv, cb, sk, sv, vk, vv, bp, br, bh, bn, bs, bl, px, py, pm, cr, sn, sx, sy, sm, sp, dg) := by
  obtain ⟨_, _, _, _, _, _, _, _, n, h1, h2, rfl, hc⟩ := hg
  have hpos : (0 : Int32) ≤ nI n := nI_pos' (by omega)
  have hneg : ¬ (0 : Int32) ≤ -nI n := by rw [zt_le, zneg_le h2, z32_0]; omega
  have e1 : -(-nI n) = nI n := Int32.neg_neg
  rcases hc with ⟨rfl, rfl⟩ | ⟨rfl, rfl⟩ | ⟨rfl, rfl⟩ | ⟨rfl, rfl⟩
  · exact nm_r (Int32.add_zero _) (br_t hpos k)
  · exact nm_r (Int32.zero_add _) (br_t hpos k)
  · refine nm_r (Int32.add_zero _) (br_f hneg ?_)
    rw [e1]; exact k
  · refine nm_r (Int32.zero_add _) (br_f hneg ?_)
    rw [e1]; exact k
/-! device coordinates -/
def ZDX (a b o : Int32) (x y : Int64) : Int64 := a.toInt64 * x - b.toInt64 * y + o.toInt64
def zof (x y : Int64) : Int32 := if x < -200 then 1 else if 200 < x then 1 else if y < -200 then 1 else if y ≤ 200 then 0 else 1
theorem zneg64 {a b ox oy F : Int32} {f : Nat → Int32} (hg : ZGR a b ox oy f F) : (-b).toInt64 = -b.toInt64 := by
  obtain ⟨_, _, _, _, _, _, _, _, n, h1, h2, rfl, hc⟩ := hg
  have k1 : ∀ n, n < 65 → (-nI n).toInt64 = -(nI n).toInt64 := by decide +kernel
  have k2 : ∀ n, n < 65 → (-(-nI n)).toInt64 = -(-nI n).toInt64 := by decide +kernel
  rcases hc with ⟨_, rfl⟩ | ⟨_, rfl⟩ | ⟨_, rfl⟩ | ⟨_, rfl⟩
  · decide
  · exact k1 n (by omega)
  · decide
  · exact k2 n (by omega)
theorem x_deviceX {post : Int64 → Prop} {x y : Int64} (k : post (ZDX mA mB oX x y)) : wpX_deviceX post (tc, ob, ps, su, ep, sd, bc, mA, mB, oX, oY, gY, wD, pC, sC, tk, tv, cb, sk, sv, vk, vv, bp, br, bh, bn, bs, bl, px, py, pm, cr, sn, sx, sy, sm, sp, dg) x y := k
theorem x_deviceY {post : Int64 → Prop} {x y : Int64} (k : post (ZDX mA mB oY y (-x))) : wpX_deviceY post (tc, ob, ps, su, ep, sd, bc, mA, mB, oX, oY, gY, wD, pC, sC, tk, tv, cb, sk, sv, vk, vv, bp, br, bh, bn, bs, bl, px, py, pm, cr, sn, sx, sy, sm, sp, dg) x y := by
  have e : ZDX mA mB oY y (-x) = ((mB.toInt64 * x) + (mA.toInt64 * y)) + oY.toInt64 := by
    unfold ZDX
    grind
  rw [e] at k
  exact k
theorem y_deviceX {post : Int64 → Prop} {x y : Int64} {F : Int32} (hg : ZGR mA mB oX oY fm F) (k : post (ZDX mA mB oX x y)) : wpY_deviceX post (yt, yo, yh, yi, ya, ye, yp, ys, yc, nw, gn, bg, wd, tk, tv, dg, sk, sv, vk, vv, hw, fr, og, lf, st, la, fm, fc, gr, wi, mn, qx, qy, ss, cl, cp, nx, ny) x y := by
  show post (((((fm 0).toInt64) * x) + (((fm 1).toInt64) * y)) + ((fm 2).toInt64))
  have e : ZDX mA mB oX x y = ((((fm 0).toInt64) * x) + (((fm 1).toInt64) * y)) + ((fm 2).toInt64) := by
    rw [hg.1, hg.2.1, hg.2.2.1, zneg64 hg]
    unfold ZDX
    grind
  rw [← e]
  exact k
theorem y_deviceY {post : Int64 → Prop} {x y : Int64} {F : Int32} (hg : ZGR mA mB oX oY fm F) (k : post (ZDX mA mB oY y (-x))) : wpY_deviceY post (yt, yo, yh, yi, ya, ye, yp, ys, yc, nw, gn, bg, wd, tk, tv, dg, sk, sv, vk, vv, hw, fr, og, lf, st, la, fm, fc, gr, wi, mn, qx, qy, ss, cl, cp, nx, ny) x y := by
  show post (((((fm 3).toInt64) * x) + (((fm 4).toInt64) * y)) + ((fm 5).toInt64))
  have e : ZDX mA mB oY y (-x) = ((((fm 3).toInt64) * x) + (((fm 4).toInt64) * y)) + ((fm 5).toInt64) := by
    rw [hg.2.2.2.1, hg.2.2.2.2.1, hg.2.2.2.2.2.1]
    unfold ZDX
    grind
  rw [← e]
  exact k
theorem x_opDX {post : Int64 → Prop} {i : Int32} {h j : Nat} (hs : sd = nI h) (hi : i = nI j) (hh : h ≤ 24) (hj : j + 1 < h) (k : post (ZDX mA mB oX (sv (h - 1 - (j + 1))).toInt64 (sv (h - 1 - j)).toInt64)) : wpX_operandDeviceX post (tc, ob, ps, su, ep, sd, bc, mA, mB, oX, oY, gY, wD, pC, sC, tk, tv, cb, sk, sv, vk, vv, bp, br, bh, bn, bs, bl, px, py, pm, cr, sn, sx, sy, sm, sp, dg) i := by
  unfold wpX_operandDeviceX
  exact x_operand (j := j + 1) hs (by rw [hi, nI_1]) hh (by omega) (x_operand (j := j) hs hi hh (by omega) (x_deviceX k))
theorem x_opDY {post : Int64 → Prop} {i : Int32} {h j : Nat} (hs : sd = nI h) (hi : i = nI j) (hh : h ≤ 24) (hj : j + 1 < h) (k : post (ZDX mA mB oY (sv (h - 1 - j)).toInt64 (-(sv (h - 1 - (j + 1))).toInt64))) : wpX_operandDeviceY post (tc, ob, ps, su, ep, sd, bc, mA, mB, oX, oY, gY, wD, pC, sC, tk, tv, cb, sk, sv, vk, vv, bp, br, bh, bn, bs, bl, px, py, pm, cr, sn, sx, sy, sm, sp, dg) i := by
  unfold wpX_operandDeviceY
  exact x_operand (j := j + 1) hs (by rw [hi, nI_1]) hh (by omega) (x_operand (j := j) hs hi hh (by omega) (x_deviceY k))
theorem x_opDXA {post : Int64 → Prop} {i : Int32} {h j : Nat} (hs : sd = nI h) (hi : i = nI j) (hh : h ≤ 24) (hj : j < 23) (k : ∀ x, post x) : wpX_operandDeviceX post (tc, ob, ps, su, ep, sd, bc, mA, mB, oX, oY, gY, wD, pC, sC, tk, tv, cb, sk, sv, vk, vv, bp, br, bh, bn, bs, bl, px, py, pm, cr, sn, sx, sy, sm, sp, dg) i := by
  unfold wpX_operandDeviceX
  exact x_operandA (j := j + 1) hs (by rw [hi, nI_1]) hh (by omega) (fun _ => x_operandA (j := j) hs hi hh (by omega) (fun _ => x_deviceX (k _)))
theorem x_opDYA {post : Int64 → Prop} {i : Int32} {h j : Nat} (hs : sd = nI h) (hi : i = nI j) (hh : h ≤ 24) (hj : j < 23) (k : ∀ x, post x) : wpX_operandDeviceY post (tc, ob, ps, su, ep, sd, bc, mA, mB, oX, oY, gY, wD, pC, sC, tk, tv, cb, sk, sv, vk, vv, bp, br, bh, bn, bs, bl, px, py, pm, cr, sn, sx, sy, sm, sp, dg) i := by
  unfold wpX_operandDeviceY
  exact x_operandA (j := j + 1) hs (by rw [hi, nI_1]) hh (by omega) (fun _ => x_operandA (j := j) hs hi hh (by omega) (fun _ => x_deviceY (k _)))
theorem x_off {post : Int32 → Prop} {x y : Int64} (k : post (zof x y)) : wpX_isOffLimits post x y := by
  unfold zof at k
  have t44 : ∀ a b : Int32, (a ≠ 0 → post 1) → (a = 0 → b ≠ 0 → post 1) → (a = 0 → b = 0 → post 0) → wX_isOffLimits_44 post a b := fun a b k1 k2 k3 => br_c (fun q => br_c (fun q2 => k3 q q2) (fun q2 => k2 q q2)) (fun q => k1 q)
  have t21 : ∀ a : Int32, (a ≠ 0 → post 1) → (a = 0 → post (if y < -200 then 1 else if y ≤ 200 then 0 else 1)) → wX_isOffLimits_21 post y a := by
    intro a k1 k2
    refine br_c (fun q => t44 a 1 k1 (fun q2 _ => ?_) (fun q2 z => absurd z (by decide))) (fun q => br_c (fun q3 => t44 a 0 k1 (fun _ z => absurd rfl z) (fun q2 _ => ?_)) (fun q3 => t44 a 1 k1 (fun q2 _ => ?_) (fun q2 z => absurd z (by decide))))
    · have := k2 q2; rw [if_pos q] at this; exact this
    · have := k2 q2; rw [if_neg q, if_pos q3] at this; exact this
    · have := k2 q2; rw [if_neg q, if_neg q3] at this; exact this
  refine br_c (fun q => t21 1 (fun _ => ?_) (fun z => absurd z (by decide))) (fun q => br_c (fun q2 => t21 0 (fun z => absurd rfl z) (fun _ => ?_)) (fun q2 => t21 1 (fun _ => ?_) (fun z => absurd z (by decide))))
  · rw [if_pos q] at k; exact k
  · rw [if_neg q, if_neg (Int64.not_lt.mpr q2)] at k; exact k
  · rw [if_neg q, if_pos (Int64.not_le.mp q2)] at k; exact k
theorem y_out {post : Int32 → Prop} {x y : Int64} (k : post (zof x y)) : wpY_out post x y := by
  unfold wpY_out
  simp only [zh post]
  exact k
theorem zof_0 {x y : Int64} (h : zof x y = 0) : Zsm x.toInt32 ∧ Zsm y.toInt32 := by
  unfold zof at h
  have m2 : (-200 : Int64).toInt = -200 := by decide
  have p2 : (200 : Int64).toInt = 200 := by decide
  by_cases q1 : x < -200
  · rw [if_pos q1] at h; exact absurd h (by decide)
  · rw [if_neg q1] at h
    by_cases q2 : 200 < x
    · rw [if_pos q2] at h; exact absurd h (by decide)
    · rw [if_neg q2] at h
      by_cases q3 : y < -200
      · rw [if_pos q3] at h; exact absurd h (by decide)
      · rw [if_neg q3] at h
        by_cases q4 : y ≤ 200
        · rw [z64_lt, m2] at q1 q3
          rw [z64_lt, p2] at q2
          rw [z64_le, p2] at q4
          have ex : x.toInt32.toInt = x.toInt := by
            rw [Int64.toInt_toInt32]
            exact Int.bmod_eq_of_le (by omega) (by omega)
          have ey : y.toInt32.toInt = y.toInt := by
            rw [Int64.toInt_toInt32]
            exact Int.bmod_eq_of_le (by omega) (by omega)
          refine ⟨⟨?_, ?_⟩, ?_, ?_⟩
          · rw [ex]; omega
          · rw [ex]; omega
          · rw [ey]; omega
          · rw [ey]; omega
        · rw [if_neg q4] at h; exact absurd h (by decide)
theorem zof_01 (x y : Int64) : zof x y = 0 ∨ zof x y = 1 := by
  unfold zof
  split
  · simp
  · split
    · simp
    · split
      · simp
      · split <;> simp
/-! the reference's plan -/
theorem zo_nb {x y : Int32} (hx : x = 0 ∨ x = 1) (hy : y = 0 ∨ y = 1) : narrow .boolean (.int (x ||| y)) = .int (x ||| y) ∧ fits .boolean (.int (x ||| y)) = true := by
  rcases hx with rfl | rfl <;> rcases hy with rfl | rfl <;> exact ⟨rfl, rfl⟩
theorem y_plan {post : SY → Prop} {x y : Int64} {q : Nat} (hq : nw = nI q) (h9 : q < 9) (hwd : wd = 0 ∨ wd = 1) (k : post (yt, yo, yh, yi, ya, ye, yp, ys, yc, nI (q + 1), gn, bg, wd ||| zof x y, tk, tv, dg, sk, sv, vk, vv, hw, fr, og, lf, st, la, fm, fc, gr, wi, mn, qx, qy, ss, cl, cp, upd nx q x.toInt32, upd ny q y.toInt32)) : wpY_plan post (yt, yo, yh, yi, ya, ye, yp, ys, yc, nw, gn, bg, wd, tk, tv, dg, sk, sv, vk, vv, hw, fr, og, lf, st, la, fm, fc, gr, wi, mn, qx, qy, ss, cl, cp, nx, ny) x y := by
  subst hq
  unfold wpY_plan
  have e : (nI q).toNatClampNeg = q := zc_i (by omega)
  have hi : vp_in (nI q) 9 := vp_in_nI h9 (by omega)
  exact y_out (nm_e ⟨(zo_nb hwd (zof_01 x y)).1, (zo_nb hwd (zof_01 x y)).2, hi, nm_r (congrArg (fun z => upd nx z x.toInt32) e) ⟨hi, nm_r (congrArg (fun z => upd ny z y.toInt32) e) (nm_r (nI_1 q) k)⟩⟩)
theorem y_planUser {post : SY → Prop} {x y : Int64} {q : Nat} {F : Int32} (hg : ZGR mA mB oX oY fm F) (hq : nw = nI q) (h9 : q < 9) (hwd : wd = 0 ∨ wd = 1) (k : post (yt, yo, yh, yi, ya, ye, yp, ys, yc, nI (q + 1), gn, bg, wd ||| zof (ZDX mA mB oX x y) (ZDX mA mB oY y (-x)), tk, tv, dg, sk, sv, vk, vv, hw, fr, og, lf, st, la, fm, fc, gr, wi, mn, qx, qy, ss, cl, cp, upd nx q (ZDX mA mB oX x y).toInt32, upd ny q (ZDX mA mB oY y (-x)).toInt32)) : wpY_planUser post (yt, yo, yh, yi, ya, ye, yp, ys, yc, nw, gn, bg, wd, tk, tv, dg, sk, sv, vk, vv, hw, fr, og, lf, st, la, fm, fc, gr, wi, mn, qx, qy, ss, cl, cp, nx, ny) x y := by
  unfold wpY_planUser
  exact y_deviceX hg (y_deviceY hg (y_plan hq h9 hwd k))
/-! behind changeState and changePath -/
theorem x_153 {post : Int32 → SX → Prop} {op h n : Nat} (hop : op < 45) (hn : ztk op = n) (hz : n ≤ h) (hs : sd = nI h) (k : post 0 (tc, ob, ps, su, ep, nI (h - n), bc, mA, mB, oX, oY, gY, wD, pC, sC, tk, tv, cb, sk, sv, vk, vv, bp, br, bh, bn, bs, bl, px, py, pm, cr, sn, sx, sy, sm, sp, dg)) : wX_execute_153 post (nI op) 0 tc ob ps su ep sd bc mA mB oX oY gY wD pC sC tk tv cb sk sv vk vv bp br bh bn bs bl px py pm cr sn sx sy sm sp dg := by
  subst hn hs
  exact br_t rfl (x_takenBy hop (nm_r (pk_sub hz) k))
theorem x_153e {post : Int32 → SX → Prop} {op e : Int32} (he : e ≠ 0) (k : post e (tc, ob, ps, su, ep, sd, bc, mA, mB, oX, oY, gY, wD, pC, sC, tk, tv, cb, sk, sv, vk, vv, bp, br, bh, bn, bs, bl, px, py, pm, cr, sn, sx, sy, sm, sp, dg)) : wX_execute_153 post op e tc ob ps su ep sd bc mA mB oX oY gY wD pC sC tk tv cb sk sv vk vv bp br bh bn bs bl px py pm cr sn sx sy sm sp dg := br_f he k
theorem y_s259 {post : SY → Prop} {op h n : Nat} (hop : op < 45) (hn : ztk op = n) (hz : n ≤ h) (hs : yh = nI h) (k : post (yt, yo, nI (h - n), yi, ya + 1, ye, yp, ys, yc, nw, gn, bg, wd, tk, tv, dg, sk, sv, vk, vv, hw, fr, og, lf, st, la, fm, fc, gr, wi, mn, qx, qy, ss, cl, cp, nx, ny)) : wY_state_259 post (nI op) yt yo yh yi ya ye yp ys yc nw gn bg wd tk tv dg sk sv vk vv hw fr og lf st la fm fc gr wi mn qx qy ss cl cp nx ny := by
  subst hn hs
  unfold wY_state_259
  exact y_takes hop (nm_r (pk_sub hz) (nm_e k))
theorem y_st0 {post : SY → Prop} {op : Nat} (hop : op < 45) (hn : ztk op = 0) (k : wY_state_16 post (nI op) 0 yt yo yh yi ya ye yp ys yc nw gn bg wd tk tv dg sk sv vk vv hw fr og lf st la fm fc gr wi mn qx qy ss cl cp nx ny) : wpY_state post (yt, yo, yh, yi, ya, ye, yp, ys, yc, nw, gn, bg, wd, tk, tv, dg, sk, sv, vk, vv, hw, fr, og, lf, st, la, fm, fc, gr, wi, mn, qx, qy, ss, cl, cp, nx, ny) (nI op) := by
  unfold wpY_state
  refine y_takes hop ?_
  rw [hn]
  exact br_t (by decide) k
theorem y_st1 {post : SY → Prop} {op h n : Nat} (hop : op < 45) (hn : ztk op = n) (h1 : 1 ≤ n) (hz : n ≤ h) (hh : h ≤ 24) (hs : yh = nI h) (k : wY_state_16 post (nI op) (sv (h - 1 - 0)) yt yo yh yi ya ye yp ys yc nw gn bg wd tk tv dg sk sv vk vv hw fr og lf st la fm fc gr wi mn qx qy ss cl cp nx ny) : wpY_state post (yt, yo, yh, yi, ya, ye, yp, ys, yc, nw, gn, bg, wd, tk, tv, dg, sk, sv, vk, vv, hw, fr, og, lf, st, la, fm, fc, gr, wi, mn, qx, qy, ss, cl, cp, nx, ny) (nI op) := by
  unfold wpY_state
  refine y_takes hop ?_
  rw [hn]
  exact ql_f n 0 h1 (y_top (j := 0) hs rfl hh (by omega) k)
theorem y_48 {pc : Nat} (hm : mn 0 = nI pc) (hp : pc ≤ 48) : ¬ (48 : Int32) < mn 0 - 0 + 0 := by
  rw [hm]
  show ¬ nI 48 < nI pc - nI 0 + nI 0
  rw [pk_sub (by omega), nI_add]
  exact nI_nlt (by omega) (by omega)
end
end
section
section
variable {tc ob ps su ep sd bc mA mB oX oY gY wD pC sC yt yo yh yi ya ye yp ys yc nw gn bg wd : Int32} {tk tv cb sk sv vk vv bp br bh bn bs bl px py pm cr sn sx sy sm sp dg hw fr og lf st la fm fc gr wi mn qx qy ss cl cp nx ny : Nat → Int32}
theorem st_gray {t h n a c s pc : Nat} {PX : Int32 → SX → Prop} (hR : ZR t h n a c mA mB oX oY gY wD pC tk tv cb sk sv vk vv bp br bh bn bs bl px py pm cr sn sx sy sm sp hw fr og lf st la fm fc gr wi mn qx qy ss cl cp) (ha : a < t) (hk : tk a = 1) (hv : tv a = nI 26) (hpc : pC = nI pc) (hp48 : pc ≤ 48) (hE : ZE1 26 h sk pc = 0)
    (H : ∀ (e : Int32) (u' : SX) (v' : SY), ZStep a (s + 1) e u' v' → (∀ PY : SY → Prop, PY v' → wpY_execute PY (nI t, 0, nI h, nI n, nI a, 0, -1, nI (s + 1), nI c, nw, gn, bg, wd, tk, tv, dg, sk, sv, vk, vv, hw, fr, og, lf, st, la, fm, fc, gr, wi, mn, qx, qy, ss, cl, cp, nx, ny)) → PX e u') : wpX_execute PX (nI t, 0, nI a, nI s, -1, nI h, nI n, mA, mB, oX, oY, gY, wD, pC, nI c, tk, tv, cb, sk, sv, vk, vv, bp, br, bh, bn, bs, bl, px, py, pm, cr, sn, sx, sy, sm, sp, dg) (nI a) := by
  have hR' := hR
  obtain ⟨hT, hS, hV, hF, hPO, hG, hSV⟩ := hR
  have ht := hT.1
  have hh := hS.1
  have hmn := zg_mn hG hpc
  have hi : vp_in (nI a) 100 := vp_in_nI (by omega) (by omega)
  have e : (nI a).toNatClampNeg = a := zc_i (by omega)
  have ek : tk (nI a).toNatClampNeg = 1 := by rw [e]; exact hk
  have ev : tv (nI a).toNatClampNeg = nI 26 := by rw [e]; exact hv
  have hpn := po_next hPO ha (by rw [hk]; decide) (by rw [hk]; decide)
  obtain ⟨z1, z2, z3, z4⟩ := ze_0 hE
  have z1 : 1 ≤ h := z1
  have Yck : ∀ Q : Int32 → SY → Prop, (sv (h - 1 - 0) < 0 → Q 10 (nI t, 0, nI h, nI n, nI a, 0, -1, nI (s + 1), nI c, 0, 0, 0, 0, tk, tv, dg, sk, sv, vk, vv, hw, fr, og, lf, st, la, fm, fc, gr, wi, mn, qx, qy, ss, cl, cp, nx, ny)) ∧ (¬ sv (h - 1 - 0) < 0 → ((3 < sv (h - 1 - 0) → Q 10 (nI t, 0, nI h, nI n, nI a, 0, -1, nI (s + 1), nI c, 0, 0, 0, 0, tk, tv, dg, sk, sv, vk, vv, hw, fr, og, lf, st, la, fm, fc, gr, wi, mn, qx, qy, ss, cl, cp, nx, ny)) ∧ (¬ 3 < sv (h - 1 - 0) → Q 0 (nI t, 0, nI h, nI n, nI a, 0, -1, nI (s + 1), nI c, 0, 0, 0, 0, tk, tv, dg, sk, sv, vk, vv, hw, fr, og, lf, st, la, fm, fc, gr, wi, mn, qx, qy, ss, cl, cp, nx, ny)))) → wY_check_87 Q (nI 26) (nI (ztk 26)) (nI t) 0 (nI h) (nI n) (nI a) 0 (-1) (nI (s + 1)) (nI c) nw gn bg wd tk tv dg sk sv vk vv hw fr og lf st la fm fc gr wi mn qx qy ss cl cp nx ny := by
    intro Q k
    refine y_plan0 (by decide) (by decide) (by decide) (br_f (by decide) (br_f (by decide) (br_f (y_48 hmn hp48) (br_f (by decide) (br_f (by decide) (y_top (j := 0) rfl rfl hh (by omega) (br_f (by decide) (br_t rfl (br_c (fun q => k.1 q) (fun q => br_c (fun q2 => (k.2 q).1 q2) (fun q2 => ?_)))))))))))
    exact br_f (by decide) (br_f (by decide) (br_f (by decide) (br_f (by decide) (br_t rfl (br_f (by decide) (y_ck335n (by decide) (by decide) (by decide) (by decide) (by decide) (by decide) ((k.2 q).2 q2)))))))
  refine nm_r (nI_1 s) (nm_r (nI_1 a) ⟨hi, br_t ek ⟨hi, nm_r ev (x_oe0 (by decide) hh hp48 rfl hpc hE (br_t rfl (br_t (by decide) (br_f (by decide) (br_f (by decide) (br_f (by decide) (br_t (by decide) (br_t (by decide) ?_))))))))⟩⟩)
  unfold wX_execute_118 wpX_changeState
  refine x_operand (j := 0) rfl rfl hh (by omega) (br_f (by decide) (br_f (by decide) (br_f (by decide) (br_f (by decide) (br_f (by decide) (br_f (by decide) (br_f (by decide) (br_t rfl ?_))))))))
  by_cases q : sv (h - 1 - 0) < 0
  · refine br_t q (x_153e (by decide) (H 10 _ (nI t, 0, nI h, nI n, nI a, 10, -1, nI (s + 1), nI c, 0, 0, 0, 0, tk, tv, dg, sk, sv, vk, vv, hw, fr, og, lf, st, la, fm, fc, gr, wi, mn, qx, qy, ss, cl, cp, nx, ny) (zs_er hR' (by decide)) (fun PY hp => ?_)))
    refine ⟨hi, nm_r ev ⟨hi, nm_r ek (br_f (by decide) (br_f (by decide) (br_f (by decide) (br_t rfl ?_))))⟩⟩
    unfold wY_execute_245 wpY_operate
    refine y_check (by decide) hh hp48 (zst_k hS) rfl hmn (fun z => absurd hE z) (fun _ z => absurd z (by decide)) (fun _ _ _ => Yck _ (br_t q (br_f (by decide) hp)))
  · refine br_f q ?_
    by_cases q2 : sv (h - 1 - 0) ≤ 3
    · have q3 : ¬ 3 < sv (h - 1 - 0) := Int32.not_lt.mpr q2
      refine br_t q2 (x_153 (n := 1) (by decide) rfl z1 rfl (H 0 _ (nI t, 0, nI (h - 1), nI n, nI a + 1, 0, -1, nI (s + 1), nI c, 0, 0, 0, 0, tk, tv, dg, sk, sv, vk, vv, hw, fr, og, lf, st, la, fm, fc, upd gr 0 (sv (h - 1 - 0)), wi, mn, qx, qy, ss, cl, cp, nx, ny) (zs_ok ⟨hT, zst_le hS (by omega), hV, hF, hpn, zgs_gray hG, zsv_up hSV zr_i zr_i zr_u zr_i zr_i zr_i zr_i zr_i zr_i zr_i⟩ rfl (nI_1 a) rfl rfl rfl rfl rfl rfl) (fun PY hp => ?_)))
      refine ⟨hi, nm_r ev ⟨hi, nm_r ek (br_f (by decide) (br_f (by decide) (br_f (by decide) (br_t rfl ?_))))⟩⟩
      unfold wY_execute_245 wpY_operate
      refine y_check (by decide) hh hp48 (zst_k hS) rfl hmn (fun z => absurd hE z) (fun _ z => absurd z (by decide)) (fun _ _ _ => Yck _ (br_f q (br_f q3 (br_t rfl ?_))))
      refine br_t (by decide) (br_t (by decide) (br_f (by decide) (y_st1 (n := 1) (by decide) rfl (by omega) z1 hh rfl ?_)))
      exact br_f (by decide) (br_f (by decide) (br_f (by decide) (br_f (by decide) (br_f (by decide) (br_t rfl (nm_e (br_f (by decide) (y_s259 (n := 1) (by decide) rfl z1 rfl hp))))))))
    · have q3 : 3 < sv (h - 1 - 0) := Int32.not_le.mp q2
      refine br_f q2 (x_153e (by decide) (H 10 _ (nI t, 0, nI h, nI n, nI a, 10, -1, nI (s + 1), nI c, 0, 0, 0, 0, tk, tv, dg, sk, sv, vk, vv, hw, fr, og, lf, st, la, fm, fc, gr, wi, mn, qx, qy, ss, cl, cp, nx, ny) (zs_er hR' (by decide)) (fun PY hp => ?_)))
      refine ⟨hi, nm_r ev ⟨hi, nm_r ek (br_f (by decide) (br_f (by decide) (br_f (by decide) (br_t rfl ?_))))⟩⟩
      unfold wY_execute_245 wpY_operate
      refine y_check (by decide) hh hp48 (zst_k hS) rfl hmn (fun z => absurd hE z) (fun _ z => absurd z (by decide)) (fun _ _ _ => Yck _ (br_f q (br_t q3 (br_f (by decide) hp))))
theorem st_width {t h n a c s pc : Nat} {PX : Int32 → SX → Prop} (hR : ZR t h n a c mA mB oX oY gY wD pC tk tv cb sk sv vk vv bp br bh bn bs bl px py pm cr sn sx sy sm sp hw fr og lf st la fm fc gr wi mn qx qy ss cl cp) (ha : a < t) (hk : tk a = 1) (hv : tv a = nI 27) (hpc : pC = nI pc) (hp48 : pc ≤ 48) (hE : ZE1 27 h sk pc = 0)
    (H : ∀ (e : Int32) (u' : SX) (v' : SY), ZStep a (s + 1) e u' v' → (∀ PY : SY → Prop, PY v' → wpY_execute PY (nI t, 0, nI h, nI n, nI a, 0, -1, nI (s + 1), nI c, nw, gn, bg, wd, tk, tv, dg, sk, sv, vk, vv, hw, fr, og, lf, st, la, fm, fc, gr, wi, mn, qx, qy, ss, cl, cp, nx, ny)) → PX e u') : wpX_execute PX (nI t, 0, nI a, nI s, -1, nI h, nI n, mA, mB, oX, oY, gY, wD, pC, nI c, tk, tv, cb, sk, sv, vk, vv, bp, br, bh, bn, bs, bl, px, py, pm, cr, sn, sx, sy, sm, sp, dg) (nI a) := by
  have hR' := hR
  obtain ⟨hT, hS, hV, hF, hPO, hG, hSV⟩ := hR
  have ht := hT.1
  have hh := hS.1
  have hmn := zg_mn hG hpc
  have hi : vp_in (nI a) 100 := vp_in_nI (by omega) (by omega)
  have e : (nI a).toNatClampNeg = a := zc_i (by omega)
  have ek : tk (nI a).toNatClampNeg = 1 := by rw [e]; exact hk
  have ev : tv (nI a).toNatClampNeg = nI 27 := by rw [e]; exact hv
  have hpn := po_next hPO ha (by rw [hk]; decide) (by rw [hk]; decide)
  obtain ⟨z1, z2, z3, z4⟩ := ze_0 hE
  have z1 : 1 ≤ h := z1
  have Yck : ∀ Q : Int32 → SY → Prop, (sv (h - 1 - 0) < 1 → Q 10 (nI t, 0, nI h, nI n, nI a, 0, -1, nI (s + 1), nI c, 0, 0, 0, 0, tk, tv, dg, sk, sv, vk, vv, hw, fr, og, lf, st, la, fm, fc, gr, wi, mn, qx, qy, ss, cl, cp, nx, ny)) ∧ (¬ sv (h - 1 - 0) < 1 → ((6 < sv (h - 1 - 0) → Q 10 (nI t, 0, nI h, nI n, nI a, 0, -1, nI (s + 1), nI c, 0, 0, 0, 0, tk, tv, dg, sk, sv, vk, vv, hw, fr, og, lf, st, la, fm, fc, gr, wi, mn, qx, qy, ss, cl, cp, nx, ny)) ∧ (¬ 6 < sv (h - 1 - 0) → Q 0 (nI t, 0, nI h, nI n, nI a, 0, -1, nI (s + 1), nI c, 0, 0, 0, 0, tk, tv, dg, sk, sv, vk, vv, hw, fr, og, lf, st, la, fm, fc, gr, wi, mn, qx, qy, ss, cl, cp, nx, ny)))) → wY_check_87 Q (nI 27) (nI (ztk 27)) (nI t) 0 (nI h) (nI n) (nI a) 0 (-1) (nI (s + 1)) (nI c) nw gn bg wd tk tv dg sk sv vk vv hw fr og lf st la fm fc gr wi mn qx qy ss cl cp nx ny := by
    intro Q k
    refine y_plan0 (by decide) (by decide) (by decide) (br_f (by decide) (br_f (by decide) (br_f (y_48 hmn hp48) (br_f (by decide) (br_f (by decide) (y_top (j := 0) rfl rfl hh (by omega) (br_f (by decide) (br_f (by decide) (br_t rfl (br_c (fun q => k.1 q) (fun q => br_c (fun q2 => (k.2 q).1 q2) (fun q2 => ?_))))))))))))
    exact br_f (by decide) (br_f (by decide) (br_f (by decide) (br_t rfl (br_f (by decide) (y_ck335n (by decide) (by decide) (by decide) (by decide) (by decide) (by decide) ((k.2 q).2 q2))))))
  refine nm_r (nI_1 s) (nm_r (nI_1 a) ⟨hi, br_t ek ⟨hi, nm_r ev (x_oe0 (by decide) hh hp48 rfl hpc hE (br_t rfl (br_t (by decide) (br_f (by decide) (br_f (by decide) (br_f (by decide) (br_t (by decide) (br_t (by decide) ?_))))))))⟩⟩)
  unfold wX_execute_118 wpX_changeState
  refine x_operand (j := 0) rfl rfl hh (by omega) (br_f (by decide) (br_f (by decide) (br_f (by decide) (br_f (by decide) (br_f (by decide) (br_f (by decide) (br_f (by decide) (br_f (by decide) (br_t rfl ?_)))))))))
  by_cases q : sv (h - 1 - 0) < 1
  · refine br_t q (x_153e (by decide) (H 10 _ (nI t, 0, nI h, nI n, nI a, 10, -1, nI (s + 1), nI c, 0, 0, 0, 0, tk, tv, dg, sk, sv, vk, vv, hw, fr, og, lf, st, la, fm, fc, gr, wi, mn, qx, qy, ss, cl, cp, nx, ny) (zs_er hR' (by decide)) (fun PY hp => ?_)))
    refine ⟨hi, nm_r ev ⟨hi, nm_r ek (br_f (by decide) (br_f (by decide) (br_f (by decide) (br_t rfl ?_))))⟩⟩
    unfold wY_execute_245 wpY_operate
    refine y_check (by decide) hh hp48 (zst_k hS) rfl hmn (fun z => absurd hE z) (fun _ z => absurd z (by decide)) (fun _ _ _ => Yck _ (br_t q (br_f (by decide) hp)))
  · refine br_f q ?_
    by_cases q2 : sv (h - 1 - 0) ≤ 6
    · have q3 : ¬ 6 < sv (h - 1 - 0) := Int32.not_lt.mpr q2
      refine br_t q2 (x_153 (n := 1) (by decide) rfl z1 rfl (H 0 _ (nI t, 0, nI (h - 1), nI n, nI a + 1, 0, -1, nI (s + 1), nI c, 0, 0, 0, 0, tk, tv, dg, sk, sv, vk, vv, hw, fr, og, lf, st, la, fm, fc, gr, upd wi 0 (sv (h - 1 - 0)), mn, qx, qy, ss, cl, cp, nx, ny) (zs_ok ⟨hT, zst_le hS (by omega), hV, hF, hpn, zgs_width hG, zsv_up hSV zr_i zr_i zr_i zr_u zr_i zr_i zr_i zr_i zr_i zr_i⟩ rfl (nI_1 a) rfl rfl rfl rfl rfl rfl) (fun PY hp => ?_)))
      refine ⟨hi, nm_r ev ⟨hi, nm_r ek (br_f (by decide) (br_f (by decide) (br_f (by decide) (br_t rfl ?_))))⟩⟩
      unfold wY_execute_245 wpY_operate
      refine y_check (by decide) hh hp48 (zst_k hS) rfl hmn (fun z => absurd hE z) (fun _ z => absurd z (by decide)) (fun _ _ _ => Yck _ (br_f q (br_f q3 (br_t rfl ?_))))
      refine br_t (by decide) (br_t (by decide) (br_f (by decide) (y_st1 (n := 1) (by decide) rfl (by omega) z1 hh rfl ?_)))
      exact br_f (by decide) (br_f (by decide) (br_f (by decide) (br_f (by decide) (br_f (by decide) (br_f (by decide) (br_t rfl (nm_e (y_s259 (n := 1) (by decide) rfl z1 rfl hp))))))))
    · have q3 : 6 < sv (h - 1 - 0) := Int32.not_le.mp q2
      refine br_f q2 (x_153e (by decide) (H 10 _ (nI t, 0, nI h, nI n, nI a, 10, -1, nI (s + 1), nI c, 0, 0, 0, 0, tk, tv, dg, sk, sv, vk, vv, hw, fr, og, lf, st, la, fm, fc, gr, wi, mn, qx, qy, ss, cl, cp, nx, ny) (zs_er hR' (by decide)) (fun PY hp => ?_)))
      refine ⟨hi, nm_r ev ⟨hi, nm_r ek (br_f (by decide) (br_f (by decide) (br_f (by decide) (br_t rfl ?_))))⟩⟩
      unfold wY_execute_245 wpY_operate
      refine y_check (by decide) hh hp48 (zst_k hS) rfl hmn (fun z => absurd hE z) (fun _ z => absurd z (by decide)) (fun _ _ _ => Yck _ (br_f q (br_t q3 (br_f (by decide) hp))))
theorem zgr_turn {a b ox oy F : Int32} {f : Nat → Int32} (hg : ZGR a b ox oy f F) : ZGR (-b) a ox oy (upd (upd (upd (upd f 0 (f 1)) 1 (-f 0)) 3 ((upd (upd f 0 (f 1)) 1 (-f 0)) 4)) 4 (-f 3)) F := by
  obtain ⟨g0, g1, g2, g3, g4, g5, g6, g7, n, h1, h2, h3, hc⟩ := hg
  refine ⟨g1, ?_, g2, ?_, ?_, g5, g6, g7, n, h1, h2, h3, ?_⟩
  · show -f 0 = -a
    rw [g0]
  · show f 4 = a
    exact g4
  · show -f 3 = -b
    rw [g3]
  · rcases hc with ⟨rfl, rfl⟩ | ⟨rfl, rfl⟩ | ⟨rfl, rfl⟩ | ⟨rfl, rfl⟩
    · exact Or.inr (Or.inl ⟨by decide, rfl⟩)
    · exact Or.inr (Or.inr (Or.inl ⟨rfl, rfl⟩))
    · exact Or.inr (Or.inr (Or.inr ⟨by decide, rfl⟩))
    · exact Or.inl ⟨Int32.neg_neg, rfl⟩
theorem st_turn {t h n a c s pc : Nat} {PX : Int32 → SX → Prop} (hR : ZR t h n a c mA mB oX oY gY wD pC tk tv cb sk sv vk vv bp br bh bn bs bl px py pm cr sn sx sy sm sp hw fr og lf st la fm fc gr wi mn qx qy ss cl cp) (ha : a < t) (hk : tk a = 1) (hv : tv a = nI 25) (hpc : pC = nI pc) (hp48 : pc ≤ 48) (hE : ZE1 25 h sk pc = 0)
    (H : ∀ (e : Int32) (u' : SX) (v' : SY), ZStep a (s + 1) e u' v' → (∀ PY : SY → Prop, PY v' → wpY_execute PY (nI t, 0, nI h, nI n, nI a, 0, -1, nI (s + 1), nI c, nw, gn, bg, wd, tk, tv, dg, sk, sv, vk, vv, hw, fr, og, lf, st, la, fm, fc, gr, wi, mn, qx, qy, ss, cl, cp, nx, ny)) → PX e u') : wpX_execute PX (nI t, 0, nI a, nI s, -1, nI h, nI n, mA, mB, oX, oY, gY, wD, pC, nI c, tk, tv, cb, sk, sv, vk, vv, bp, br, bh, bn, bs, bl, px, py, pm, cr, sn, sx, sy, sm, sp, dg) (nI a) := by
  have hR' := hR
  obtain ⟨hT, hS, hV, hF, hPO, hG, hSV⟩ := hR
  have ht := hT.1
  have hh := hS.1
  have hmn := zg_mn hG hpc
  have hi : vp_in (nI a) 100 := vp_in_nI (by omega) (by omega)
  have e : (nI a).toNatClampNeg = a := zc_i (by omega)
  have ek : tk (nI a).toNatClampNeg = 1 := by rw [e]; exact hk
  have ev : tv (nI a).toNatClampNeg = nI 25 := by rw [e]; exact hv
  have hpn := po_next hPO ha (by rw [hk]; decide) (by rw [hk]; decide)
  obtain ⟨z1, z2, z3, z4⟩ := ze_0 hE
  have z1 : 0 ≤ h := z1
  refine nm_r (nI_1 s) (nm_r (nI_1 a) ⟨hi, br_t ek ⟨hi, nm_r ev (x_oe0 (by decide) hh hp48 rfl hpc hE (br_t rfl (br_t (by decide) (br_f (by decide) (br_f (by decide) (br_f (by decide) (br_t (by decide) (br_t (by decide) ?_))))))))⟩⟩)
  unfold wX_execute_118 wpX_changeState
  refine x_operandA (j := 0) rfl rfl hh (by omega) (fun _ => br_f (by decide) (br_f (by decide) (br_f (by decide) (br_f (by decide) (br_f (by decide) (br_f (by decide) (br_t rfl ?_)))))))
  refine nm_e (x_153 (n := 0) (by decide) rfl z1 rfl (H 0 _ (nI t, 0, nI (h - 0), nI n, nI a + 1, 0, -1, nI (s + 1), nI c, 0, 0, 0, 0, tk, tv, dg, sk, sv, vk, vv, hw, fr, og, lf, st, la, upd (upd (upd (upd fm 0 (fm 1)) 1 (-fm 0)) 3 ((upd (upd fm 0 (fm 1)) 1 (-fm 0)) 4)) 4 (-fm 3), fc, gr, wi, mn, qx, qy, ss, cl, cp, nx, ny) (zs_ok ⟨hT, zst_le hS (by omega), hV, hF, hpn, zgs_map hG (zgr_turn hG.1), zsv_up hSV (fun i hi => ?_) zr_i zr_i zr_i zr_i zr_i zr_i zr_i zr_i zr_i⟩ rfl (nI_1 a) rfl rfl rfl rfl rfl rfl) (fun PY hp => ?_)))
  · rw [pk_un (by omega), pk_un (by omega), pk_un (by omega), pk_un (by omega)]
  · refine ⟨hi, nm_r ev ⟨hi, nm_r ek (br_f (by decide) (br_f (by decide) (br_f (by decide) (br_t rfl ?_))))⟩⟩
    unfold wY_execute_245 wpY_operate
    refine y_check (by decide) hh hp48 (zst_k hS) rfl hmn (fun z => absurd hE z) (fun _ z => absurd z (by decide)) (fun _ _ _ => y_ck87 rfl hh z1 hmn hp48 (by decide) (by decide) (by decide) (by decide) (by decide) (by decide) (by decide) (by decide) (by decide) (by decide) (by decide) (y_ck335n (by decide) (by decide) (by decide) (by decide) (by decide) (by decide) (br_t rfl ?_)))
    refine br_t (by decide) (br_t (by decide) (br_f (by decide) (y_st0 (by decide) rfl ?_)))
    exact br_f (by decide) (br_f (by decide) (br_f (by decide) (br_f (by decide) (br_t rfl (nm_e (nm_e (nm_e (nm_e (nm_e (nm_e (br_f (by decide) (br_f (by decide) (y_s259 (n := 0) (by decide) rfl z1 rfl hp)))))))))))))
theorem st_newpath {t h n a c s pc : Nat} {PX : Int32 → SX → Prop} (hR : ZR t h n a c mA mB oX oY gY wD pC tk tv cb sk sv vk vv bp br bh bn bs bl px py pm cr sn sx sy sm sp hw fr og lf st la fm fc gr wi mn qx qy ss cl cp) (ha : a < t) (hk : tk a = 1) (hv : tv a = nI 28) (hpc : pC = nI pc) (hp48 : pc ≤ 48) (hE : ZE1 28 h sk pc = 0)
    (H : ∀ (e : Int32) (u' : SX) (v' : SY), ZStep a (s + 1) e u' v' → (∀ PY : SY → Prop, PY v' → wpY_execute PY (nI t, 0, nI h, nI n, nI a, 0, -1, nI (s + 1), nI c, nw, gn, bg, wd, tk, tv, dg, sk, sv, vk, vv, hw, fr, og, lf, st, la, fm, fc, gr, wi, mn, qx, qy, ss, cl, cp, nx, ny)) → PX e u') : wpX_execute PX (nI t, 0, nI a, nI s, -1, nI h, nI n, mA, mB, oX, oY, gY, wD, pC, nI c, tk, tv, cb, sk, sv, vk, vv, bp, br, bh, bn, bs, bl, px, py, pm, cr, sn, sx, sy, sm, sp, dg) (nI a) := by
  have hR' := hR
  obtain ⟨hT, hS, hV, hF, hPO, hG, hSV⟩ := hR
  have ht := hT.1
  have hh := hS.1
  have hmn := zg_mn hG hpc
  have hi : vp_in (nI a) 100 := vp_in_nI (by omega) (by omega)
  have e : (nI a).toNatClampNeg = a := zc_i (by omega)
  have ek : tk (nI a).toNatClampNeg = 1 := by rw [e]; exact hk
  have ev : tv (nI a).toNatClampNeg = nI 28 := by rw [e]; exact hv
  have hpn := po_next hPO ha (by rw [hk]; decide) (by rw [hk]; decide)
  obtain ⟨z1, z2, z3, z4⟩ := ze_0 hE
  have z1 : 0 ≤ h := z1
  refine nm_r (nI_1 s) (nm_r (nI_1 a) ⟨hi, br_t ek ⟨hi, nm_r ev (x_oe0 (by decide) hh hp48 rfl hpc hE (br_t rfl (br_t (by decide) (br_f (by decide) (br_f (by decide) (br_f (by decide) (br_t (by decide) (br_t (by decide) ?_))))))))⟩⟩)
  unfold wX_execute_118 wpX_changeState
  refine x_operandA (j := 0) rfl rfl hh (by omega) (fun _ => br_f (by decide) (br_f (by decide) (br_f (by decide) (br_f (by decide) (br_f (by decide) (br_f (by decide) (br_f (by decide) (br_f (by decide) (br_f (by decide) (br_t rfl ?_))))))))))
  refine x_153 (n := 0) (by decide) rfl z1 rfl (H 0 _ (nI t, 0, nI (h - 0), nI n, nI a + 1, 0, -1, nI (s + 1), nI c, 0, 0, 0, 0, tk, tv, dg, sk, sv, vk, vv, hw, fr, og, lf, st, la, fm, fc, gr, wi, upd mn 0 0, qx, qy, ss, cl, cp, nx, ny) (zs_ok ⟨hT, zst_le hS (by omega), hV, hF, hpn, zgs_path (q := 0) hG zpt_0, zsv_up hSV zr_i zr_i zr_i zr_i zr_u zr_i zr_i zr_i zr_i zr_i⟩ rfl (nI_1 a) rfl rfl rfl rfl rfl rfl) (fun PY hp => ?_))
  refine ⟨hi, nm_r ev ⟨hi, nm_r ek (br_f (by decide) (br_f (by decide) (br_f (by decide) (br_t rfl ?_))))⟩⟩
  unfold wY_execute_245 wpY_operate
  refine y_check (by decide) hh hp48 (zst_k hS) rfl hmn (fun z => absurd hE z) (fun _ z => absurd z (by decide)) (fun _ _ _ => y_ck87 rfl hh z1 hmn hp48 (by decide) (by decide) (by decide) (by decide) (by decide) (by decide) (by decide) (by decide) (by decide) (by decide) (by decide) (y_ck335n (by decide) (by decide) (by decide) (by decide) (by decide) (by decide) (br_t rfl ?_)))
  refine br_t (by decide) (br_t (by decide) (br_t (by decide) (br_t (by decide) ?_)))
  unfold wY_operate_71
  refine br_t rfl (nm_e ⟨1, br_t (by decide) (y_takes (by decide) (nm_r (pk_sub (b := 0) z1) (br_f (by decide) (br_f (by decide) (br_f (by decide) (nm_e hp))))))⟩)
theorem y_p165 {post : SY → Prop} {op : Int32} (h42 : op ≠ 42) (k : post (yt, yo, yh, yi, ya + 1, ye, yp, ys, yc, nw, gn, bg, wd, tk, tv, dg, sk, sv, vk, vv, hw, fr, og, lf, st, la, fm, fc, gr, wi, mn, qx, qy, ss, cl, cp, nx, ny)) : ∃ q, wY_paint_165 post op yt yo yh yi ya ye yp ys yc nw gn bg wd q 0 tk tv dg sk sv vk vv hw fr og lf st la fm fc gr wi mn qx qy ss cl cp nx ny := ⟨1, br_f (by decide) (br_f h42 (nm_e k))⟩
theorem y_p137 {post : SY → Prop} : ∀ (d j : Nat) (cp : Nat → Int32), j + d = 576 → post (yt, yo, yh, yi, ya + 1, ye, yp, ys, yc, nw, gn, bg, wd, tk, tv, dg, sk, sv, vk, vv, hw, fr, og, lf, st, la, fm, fc, gr, wi, mn, qx, qy, ss, cl, zf cp j 576 (fun _ => 1), nx, ny) → wY_paint_137 post 41 yt yo yh yi ya ye yp ys yc nw gn bg wd (d + 1) (nI j) tk tv dg sk sv vk vv hw fr og lf st la fm fc gr wi mn qx qy ss cl cp nx ny := by
  intro d
  induction d with
  | zero =>
    intro j cp hj k
    have : j = 576 := by omega
    subst this
    rw [zf_z] at k
    exact ql_t 576 576 (by omega) (y_p165 (by decide) k)
  | succ d ih =>
    intro j cp hj k
    refine ql_f 576 j (by omega) (br_t rfl ⟨vp_in_nI (by omega) (by omega), nm_r (congrArg (fun q => upd cp q 1) (zc_i (by omega))) (nm_r (nI_1 j) (ih (j + 1) _ (by omega) ?_))⟩)
    rw [zf_s (g := fun _ => 1) (by omega)]
    exact k
theorem y_p165w {post : SY → Prop} : ∀ (d j : Nat) (dg : Nat → Int32), j + d = 576 → post (yt, yo, yh, yi, ya + 1, ye, yp, ys, yc, nw, gn, bg, wd, tk, tv, zf dg j 576 (fun _ => 0), sk, sv, vk, vv, hw, fr, og, lf, st, la, fm, fc, gr, wi, mn, qx, qy, ss, cl, cp, nx, ny) → wY_paint_165 post 42 yt yo yh yi ya ye yp ys yc nw gn bg wd (d + 1) (nI j) tk tv dg sk sv vk vv hw fr og lf st la fm fc gr wi mn qx qy ss cl cp nx ny := by
  intro d
  induction d with
  | zero =>
    intro j dg hj k
    have : j = 576 := by omega
    subst this
    rw [zf_z] at k
    exact ql_t 576 576 (by omega) (nm_e k)
  | succ d ih =>
    intro j dg hj k
    refine ql_f 576 j (by omega) (br_t rfl ⟨vp_in_nI (by omega) (by omega), nm_r (congrArg (fun q => upd dg q 0) (zc_i (by omega))) (nm_r (nI_1 j) (ih (j + 1) _ (by omega) ?_))⟩)
    rw [zf_s (g := fun _ => 0) (by omega)]
    exact k
theorem x_wipe_l {post : SX → Prop} : ∀ (d j : Nat) (dg : Nat → Int32), j + d = 576 → post (tc, ob, ps, su, ep, sd, bc, mA, mB, oX, oY, gY, wD, pC, sC, tk, tv, cb, sk, sv, vk, vv, bp, br, bh, bn, bs, bl, px, py, pm, cr, sn, sx, sy, sm, sp, zf dg j 576 (fun _ => 0)) → wX_wipePage_2 post tc ob ps su ep sd bc mA mB oX oY gY wD pC sC (d + 1) (nI j) tk tv cb sk sv vk vv bp br bh bn bs bl px py pm cr sn sx sy sm sp dg := by
  intro d
  induction d with
  | zero =>
    intro j dg hj k
    have : j = 576 := by omega
    subst this
    rw [zf_z] at k
    exact ql_t 576 576 (by omega) k
  | succ d ih =>
    intro j dg hj k
    refine ql_f 576 j (by omega) ⟨vp_in_nI (by omega) (by omega), nm_r (congrArg (fun q => upd dg q 0) (zc_i (by omega))) (nm_r (nI_1 j) (ih (j + 1) _ (by omega) ?_))⟩
    rw [zf_s (g := fun _ => 0) (by omega)]
    exact k
theorem st_initclip {t h n a c s pc : Nat} {PX : Int32 → SX → Prop} (hR : ZR t h n a c mA mB oX oY gY wD pC tk tv cb sk sv vk vv bp br bh bn bs bl px py pm cr sn sx sy sm sp hw fr og lf st la fm fc gr wi mn qx qy ss cl cp) (ha : a < t) (hk : tk a = 1) (hv : tv a = nI 41) (hpc : pC = nI pc) (hp48 : pc ≤ 48) (hE : ZE1 41 h sk pc = 0)
    (H : ∀ (e : Int32) (u' : SX) (v' : SY), ZStep a (s + 1) e u' v' → (∀ PY : SY → Prop, PY v' → wpY_execute PY (nI t, 0, nI h, nI n, nI a, 0, -1, nI (s + 1), nI c, nw, gn, bg, wd, tk, tv, dg, sk, sv, vk, vv, hw, fr, og, lf, st, la, fm, fc, gr, wi, mn, qx, qy, ss, cl, cp, nx, ny)) → PX e u') : wpX_execute PX (nI t, 0, nI a, nI s, -1, nI h, nI n, mA, mB, oX, oY, gY, wD, pC, nI c, tk, tv, cb, sk, sv, vk, vv, bp, br, bh, bn, bs, bl, px, py, pm, cr, sn, sx, sy, sm, sp, dg) (nI a) := by
  have hR' := hR
  obtain ⟨hT, hS, hV, hF, hPO, hG, hSV⟩ := hR
  have ht := hT.1
  have hh := hS.1
  have hmn := zg_mn hG hpc
  have hi : vp_in (nI a) 100 := vp_in_nI (by omega) (by omega)
  have e : (nI a).toNatClampNeg = a := zc_i (by omega)
  have ek : tk (nI a).toNatClampNeg = 1 := by rw [e]; exact hk
  have ev : tv (nI a).toNatClampNeg = nI 41 := by rw [e]; exact hv
  have hpn := po_next hPO ha (by rw [hk]; decide) (by rw [hk]; decide)
  obtain ⟨z1, z2, z3, z4⟩ := ze_0 hE
  have z1 : 0 ≤ h := z1
  refine nm_r (nI_1 s) (nm_r (nI_1 a) ⟨hi, br_t ek ⟨hi, nm_r ev (x_oe0 (by decide) hh hp48 rfl hpc hE (br_t rfl (br_t (by decide) (br_f (by decide) (br_f (by decide) (br_f (by decide) (br_t (by decide) (br_f (by decide) (br_t rfl ?_)))))))))⟩⟩)
  unfold wX_execute_118 wpX_changeState
  refine x_operandA (j := 0) rfl rfl hh (by omega) (fun _ => br_f (by decide) (br_f (by decide) (br_f (by decide) (br_f (by decide) (br_f (by decide) (br_f (by decide) (br_f (by decide) (br_f (by decide) (br_f (by decide) (br_f (by decide) (br_f (by decide) (br_f (by decide) (br_f (by decide) (br_f (by decide) (br_f (by decide) (br_f (by decide) (br_f (by decide) (br_f (by decide) (br_f (by decide) (br_f (by decide) (br_f (by decide) (br_f (by decide) (br_t rfl ?_)))))))))))))))))))))))
  refine x_openClip (x_153 (n := 0) (by decide) rfl z1 rfl (H 0 _ (nI t, 0, nI h, nI n, nI a + 1, 0, -1, nI (s + 1), nI c, 0, 0, 0, 0, tk, tv, dg, sk, sv, vk, vv, hw, fr, og, lf, st, la, fm, fc, gr, wi, mn, qx, qy, ss, cl, zf cp 0 576 (fun _ => 1), nx, ny) (zs_ok ⟨hT, hS, hV, hF, hpn, zgs_clip hG zcp_full, zsv_up hSV zr_i zr_i zr_i zr_i zr_i zr_i zr_i zr_i zr_i (fun i hi => zf_hi (by omega))⟩ rfl (nI_1 a) rfl rfl rfl rfl rfl rfl) (fun PY hp => ?_)))
  refine ⟨hi, nm_r ev ⟨hi, nm_r ek (br_f (by decide) (br_f (by decide) (br_f (by decide) (br_t rfl ?_))))⟩⟩
  unfold wY_execute_245 wpY_operate
  refine y_check (by decide) hh hp48 (zst_k hS) rfl hmn (fun z => absurd hE z) (fun _ z => absurd z (by decide)) (fun _ _ _ => y_ck87 rfl hh z1 hmn hp48 (by decide) (by decide) (by decide) (by decide) (by decide) (by decide) (by decide) (by decide) (by decide) (by decide) (by decide) (y_ck335n (by decide) (by decide) (by decide) (by decide) (by decide) (by decide) (br_t rfl ?_)))
  refine br_t (by decide) (br_t (by decide) (br_t (by decide) (br_f (by decide) (br_f (by decide) ?_))))
  exact br_f (by decide) (br_t (by decide) (br_t (by decide) ⟨577, y_p137 576 0 _ rfl hp⟩))
theorem st_wipe {t h n a c s pc : Nat} {PX : Int32 → SX → Prop} (hR : ZR t h n a c mA mB oX oY gY wD pC tk tv cb sk sv vk vv bp br bh bn bs bl px py pm cr sn sx sy sm sp hw fr og lf st la fm fc gr wi mn qx qy ss cl cp) (ha : a < t) (hk : tk a = 1) (hv : tv a = nI 42) (hpc : pC = nI pc) (hp48 : pc ≤ 48) (hE : ZE1 42 h sk pc = 0)
    (H : ∀ (e : Int32) (u' : SX) (v' : SY), ZStep a (s + 1) e u' v' → (∀ PY : SY → Prop, PY v' → wpY_execute PY (nI t, 0, nI h, nI n, nI a, 0, -1, nI (s + 1), nI c, nw, gn, bg, wd, tk, tv, dg, sk, sv, vk, vv, hw, fr, og, lf, st, la, fm, fc, gr, wi, mn, qx, qy, ss, cl, cp, nx, ny)) → PX e u') : wpX_execute PX (nI t, 0, nI a, nI s, -1, nI h, nI n, mA, mB, oX, oY, gY, wD, pC, nI c, tk, tv, cb, sk, sv, vk, vv, bp, br, bh, bn, bs, bl, px, py, pm, cr, sn, sx, sy, sm, sp, dg) (nI a) := by
  have hR' := hR
  obtain ⟨hT, hS, hV, hF, hPO, hG, hSV⟩ := hR
  have ht := hT.1
  have hh := hS.1
  have hmn := zg_mn hG hpc
  have hi : vp_in (nI a) 100 := vp_in_nI (by omega) (by omega)
  have e : (nI a).toNatClampNeg = a := zc_i (by omega)
  have ek : tk (nI a).toNatClampNeg = 1 := by rw [e]; exact hk
  have ev : tv (nI a).toNatClampNeg = nI 42 := by rw [e]; exact hv
  have hpn := po_next hPO ha (by rw [hk]; decide) (by rw [hk]; decide)
  obtain ⟨z1, z2, z3, z4⟩ := ze_0 hE
  have z1 : 0 ≤ h := z1
  refine nm_r (nI_1 s) (nm_r (nI_1 a) ⟨hi, br_t ek ⟨hi, nm_r ev (x_oe0 (by decide) hh hp48 rfl hpc hE (br_t rfl (br_t (by decide) (br_f (by decide) (br_f (by decide) (br_f (by decide) (br_t (by decide) (br_f (by decide) (br_f (by decide) (br_t rfl ?_))))))))))⟩⟩)
  unfold wX_execute_118 wpX_changeState
  refine x_operandA (j := 0) rfl rfl hh (by omega) (fun _ => br_f (by decide) (br_t (by decide) ?_))
  refine ⟨577, x_wipe_l 576 0 _ rfl (x_153 (n := 0) (by decide) rfl z1 rfl (H 0 _ (nI t, 0, nI h, nI n, nI a + 1, 0, -1, nI (s + 1), nI c, 0, 0, 0, 0, tk, tv, zf dg 0 576 (fun _ => 0), sk, sv, vk, vv, hw, fr, og, lf, st, la, fm, fc, gr, wi, mn, qx, qy, ss, cl, cp, nx, ny) (zs_ok ⟨hT, hS, hV, hF, hpn, hG, hSV⟩ rfl (nI_1 a) rfl rfl rfl rfl rfl rfl) (fun PY hp => ?_)))⟩
  refine ⟨hi, nm_r ev ⟨hi, nm_r ek (br_f (by decide) (br_f (by decide) (br_f (by decide) (br_t rfl ?_))))⟩⟩
  unfold wY_execute_245 wpY_operate
  refine y_check (by decide) hh hp48 (zst_k hS) rfl hmn (fun z => absurd hE z) (fun _ z => absurd z (by decide)) (fun _ _ _ => y_ck87 rfl hh z1 hmn hp48 (by decide) (by decide) (by decide) (by decide) (by decide) (by decide) (by decide) (by decide) (by decide) (by decide) (by decide) (y_ck335n (by decide) (by decide) (by decide) (by decide) (by decide) (by decide) (br_t rfl ?_)))
  refine br_t (by decide) (br_t (by decide) (br_t (by decide) (br_f (by decide) (br_f (by decide) ?_))))
  exact br_f (by decide) (br_t (by decide) (br_t (by decide) ⟨1, br_f (by decide) (br_f (by decide) ⟨577, y_p165w 576 0 _ rfl hp⟩)⟩))
theorem zgr_scale {a b ox oy F : Int32} {f : Nat → Int32} {m : Nat} (hg : ZGR a b ox oy f F) (h1 : 1 ≤ m) (h4 : m ≤ 4) (h64 : F * nI m ≤ 64) : ZGR (a * nI m) (b * nI m) ox oy (upd (upd (upd (upd f 0 (f 0 * nI m)) 1 (f 1 * nI m)) 3 (f 3 * nI m)) 4 (f 4 * nI m)) (F * nI m) := by
  obtain ⟨g0, g1, g2, g3, g4, g5, g6, g7, n, h1', h2', h3', hc⟩ := hg
  subst h3'
  rw [pk_mul] at h64
  have hle : n * m ≤ 64 := by
    have e : n * m ≤ 256 := Nat.le_trans (Nat.mul_le_mul h2' h4) (by omega)
    exact (nI_leI (b := 64) (by omega) (by omega)).mp h64
  have hge : 1 ≤ n * m := Nat.le_trans h1' (Nat.le_mul_of_pos_right n h1)
  refine ⟨?_, ?_, g2, ?_, ?_, g5, g6, g7, n * m, hge, hle, pk_mul n m, ?_⟩
  · show f 0 * nI m = _
    rw [g0]
  · show f 1 * nI m = _
    rw [g1]; grind
  · show f 3 * nI m = _
    rw [g3]
  · show f 4 * nI m = _
    rw [g4]
  · rcases hc with ⟨rfl, rfl⟩ | ⟨rfl, rfl⟩ | ⟨rfl, rfl⟩ | ⟨rfl, rfl⟩
    · exact Or.inl ⟨pk_mul n m, Int32.zero_mul⟩
    · exact Or.inr (Or.inl ⟨Int32.zero_mul, pk_mul n m⟩)
    · exact Or.inr (Or.inr (Or.inl ⟨by rw [← pk_mul]; grind, Int32.zero_mul⟩))
    · exact Or.inr (Or.inr (Or.inr ⟨Int32.zero_mul, by rw [← pk_mul]; grind⟩))
theorem y_scale_l {post : SY → Prop} {op x : Int32} (k : wY_state_171 post op x yt yo yh yi ya ye yp ys yc nw gn bg wd tk tv dg sk sv vk vv hw fr og lf st la (upd (upd (upd (upd fm 0 (fm 0 * x)) 1 (fm 1 * x)) 3 (fm 3 * x)) 4 (fm 4 * x)) fc gr wi mn qx qy ss cl cp nx ny) : ∃ q, wY_state_142 post op x yt yo yh yi ya ye yp ys yc nw gn bg wd q 0 tk tv dg sk sv vk vv hw fr og lf st la fm fc gr wi mn qx qy ss cl cp nx ny := by
  exact ⟨7, br_f (by decide) ⟨(by decide), br_f (by decide) ⟨vp_in_nI (n := 0) (by omega) (by omega), vp_in_nI (n := 0) (by omega) (by omega), nm_r (show _ = upd fm 0 (fm 0 * x) from rfl) (nm_r (show (0 : Int32) + 1 = 1 from rfl) (br_f (by decide) ⟨(by decide), br_f (by decide) ⟨vp_in_nI (n := 1) (by omega) (by omega), vp_in_nI (n := 1) (by omega) (by omega), nm_r (show _ = upd (upd fm 0 (fm 0 * x)) 1 (fm 1 * x) from rfl) (nm_r (show (1 : Int32) + 1 = 2 from rfl) (br_f (by decide) ⟨(by decide), br_t (by decide) (nm_r (show (2 : Int32) + 1 = 3 from rfl) (br_f (by decide) ⟨(by decide), br_f (by decide) ⟨vp_in_nI (n := 3) (by omega) (by omega), vp_in_nI (n := 3) (by omega) (by omega), nm_r (show _ = upd (upd (upd fm 0 (fm 0 * x)) 1 (fm 1 * x)) 3 (fm 3 * x) from rfl) (nm_r (show (3 : Int32) + 1 = 4 from rfl) (br_f (by decide) ⟨(by decide), br_f (by decide) ⟨vp_in_nI (n := 4) (by omega) (by omega), vp_in_nI (n := 4) (by omega) (by omega), nm_r (show _ = upd (upd (upd (upd fm 0 (fm 0 * x)) 1 (fm 1 * x)) 3 (fm 3 * x)) 4 (fm 4 * x) from rfl) (nm_r (show (4 : Int32) + 1 = 5 from rfl) (br_f (by decide) ⟨(by decide), br_t (by decide) (nm_r (show (5 : Int32) + 1 = 6 from rfl) (br_t (by decide) k))⟩))⟩⟩))⟩⟩))⟩))⟩⟩))⟩⟩⟩
theorem st_scale {t h n a c s pc : Nat} {PX : Int32 → SX → Prop} (hR : ZR t h n a c mA mB oX oY gY wD pC tk tv cb sk sv vk vv bp br bh bn bs bl px py pm cr sn sx sy sm sp hw fr og lf st la fm fc gr wi mn qx qy ss cl cp) (ha : a < t) (hk : tk a = 1) (hv : tv a = nI 24) (hpc : pC = nI pc) (hp48 : pc ≤ 48) (hE : ZE1 24 h sk pc = 0)
    (H : ∀ (e : Int32) (u' : SX) (v' : SY), ZStep a (s + 1) e u' v' → (∀ PY : SY → Prop, PY v' → wpY_execute PY (nI t, 0, nI h, nI n, nI a, 0, -1, nI (s + 1), nI c, nw, gn, bg, wd, tk, tv, dg, sk, sv, vk, vv, hw, fr, og, lf, st, la, fm, fc, gr, wi, mn, qx, qy, ss, cl, cp, nx, ny)) → PX e u') : wpX_execute PX (nI t, 0, nI a, nI s, -1, nI h, nI n, mA, mB, oX, oY, gY, wD, pC, nI c, tk, tv, cb, sk, sv, vk, vv, bp, br, bh, bn, bs, bl, px, py, pm, cr, sn, sx, sy, sm, sp, dg) (nI a) := by
  have hR' := hR
  obtain ⟨hT, hS, hV, hF, hPO, hG, hSV⟩ := hR
  have ht := hT.1
  have hh := hS.1
  have hmn := zg_mn hG hpc
  have hi : vp_in (nI a) 100 := vp_in_nI (by omega) (by omega)
  have e : (nI a).toNatClampNeg = a := zc_i (by omega)
  have ek : tk (nI a).toNatClampNeg = 1 := by rw [e]; exact hk
  have ev : tv (nI a).toNatClampNeg = nI 24 := by rw [e]; exact hv
  have hpn := po_next hPO ha (by rw [hk]; decide) (by rw [hk]; decide)
  obtain ⟨z1, z2, z3, z4⟩ := ze_0 hE
  have z1 : 1 ≤ h := z1
  have Yck : ∀ Q : Int32 → SY → Prop, (sv (h - 1 - 0) < 1 → Q 10 (nI t, 0, nI h, nI n, nI a, 0, -1, nI (s + 1), nI c, 0, 0, 0, 0, tk, tv, dg, sk, sv, vk, vv, hw, fr, og, lf, st, la, fm, fc, gr, wi, mn, qx, qy, ss, cl, cp, nx, ny)) ∧ (¬ sv (h - 1 - 0) < 1 → ((4 < sv (h - 1 - 0) → Q 10 (nI t, 0, nI h, nI n, nI a, 0, -1, nI (s + 1), nI c, 0, 0, 0, 0, tk, tv, dg, sk, sv, vk, vv, hw, fr, og, lf, st, la, fm, fc, gr, wi, mn, qx, qy, ss, cl, cp, nx, ny)) ∧ (¬ 4 < sv (h - 1 - 0) → ((64 < fc 0 * sv (h - 1 - 0) → Q 5 (nI t, 0, nI h, nI n, nI a, 0, -1, nI (s + 1), nI c, 0, 0, 0, 0, tk, tv, dg, sk, sv, vk, vv, hw, fr, og, lf, st, la, fm, fc, gr, wi, mn, qx, qy, ss, cl, cp, nx, ny)) ∧ (¬ 64 < fc 0 * sv (h - 1 - 0) → Q 0 (nI t, 0, nI h, nI n, nI a, 0, -1, nI (s + 1), nI c, 0, 0, 0, 0, tk, tv, dg, sk, sv, vk, vv, hw, fr, og, lf, st, la, fm, fc, gr, wi, mn, qx, qy, ss, cl, cp, nx, ny)))))) → wY_check_87 Q (nI 24) (nI (ztk 24)) (nI t) 0 (nI h) (nI n) (nI a) 0 (-1) (nI (s + 1)) (nI c) nw gn bg wd tk tv dg sk sv vk vv hw fr og lf st la fm fc gr wi mn qx qy ss cl cp nx ny := by
    intro Q k
    refine y_plan0 (by decide) (by decide) (by decide) (br_f (by decide) (br_f (by decide) (br_f (y_48 hmn hp48) (br_f (by decide) (br_f (by decide) (y_top (j := 0) rfl rfl hh (by omega) (br_t rfl (br_c (fun q => k.1 q) (fun q => br_c (fun q2 => (k.2 q).1 q2) (fun q2 => ?_))))))))))
    exact br_f (by decide) (br_f (by decide) (br_f (by decide) (br_f (by decide) (br_t rfl (br_c (fun q3 => ((k.2 q).2 q2).1 q3) (fun q3 => br_t rfl (br_f (by decide) (y_ck335n (by decide) (by decide) (by decide) (by decide) (by decide) (by decide) (((k.2 q).2 q2).2 q3)))))))))
  refine nm_r (nI_1 s) (nm_r (nI_1 a) ⟨hi, br_t ek ⟨hi, nm_r ev (x_oe0 (by decide) hh hp48 rfl hpc hE (br_t rfl (br_t (by decide) (br_f (by decide) (br_f (by decide) (br_f (by decide) (br_t (by decide) (br_t (by decide) ?_))))))))⟩⟩)
  unfold wX_execute_118 wpX_changeState
  refine x_operand (j := 0) rfl rfl hh (by omega) (br_f (by decide) (br_f (by decide) (br_f (by decide) (br_f (by decide) (br_f (by decide) (br_t rfl ?_))))))
  unfold wpX_scaleMap
  by_cases q : sv (h - 1 - 0) < 1
  · refine br_t q (x_153e (by decide) (H 10 _ (nI t, 0, nI h, nI n, nI a, 10, -1, nI (s + 1), nI c, 0, 0, 0, 0, tk, tv, dg, sk, sv, vk, vv, hw, fr, og, lf, st, la, fm, fc, gr, wi, mn, qx, qy, ss, cl, cp, nx, ny) (zs_er hR' (by decide)) (fun PY hp => ?_)))
    refine ⟨hi, nm_r ev ⟨hi, nm_r ek (br_f (by decide) (br_f (by decide) (br_f (by decide) (br_t rfl ?_))))⟩⟩
    unfold wY_execute_245 wpY_operate
    refine y_check (by decide) hh hp48 (zst_k hS) rfl hmn (fun z => absurd hE z) (fun _ z => absurd z (by decide)) (fun _ _ _ => Yck _ (br_t q (br_f (by decide) hp)))
  · refine br_f q ?_
    by_cases q2 : sv (h - 1 - 0) ≤ 4
    · have q3 : ¬ 4 < sv (h - 1 - 0) := Int32.not_lt.mpr q2
      obtain ⟨m, hm1, hm4, em⟩ : ∃ m : Nat, 1 ≤ m ∧ m ≤ 4 ∧ sv (h - 1 - 0) = nI m := by
        rcases pk_ix (sv (h - 1 - 0)) (n := 5) (by omega) with z | z | ⟨m, hm, z⟩
        · exact absurd (Int32.lt_trans z (by decide)) q
        · exact absurd (Int32.le_trans z q2) (by decide)
        · refine ⟨m, ?_, by omega, z⟩
          rcases Nat.lt_or_ge 0 m with g | g
          · exact g
          · exfalso
            apply q
            rw [z, show m = 0 by omega]
            decide
      refine br_t q2 (x_factor hG.1 ?_)
      by_cases q4 : fc 0 * sv (h - 1 - 0) ≤ 64
      · have q5 : ¬ 64 < fc 0 * sv (h - 1 - 0) := Int32.not_lt.mpr q4
        refine br_t q4 (nm_e (nm_e (x_153 (n := 1) (by decide) rfl z1 rfl (H 0 _ (nI t, 0, nI (h - 1), nI n, nI a + 1, 0, -1, nI (s + 1), nI c, 0, 0, 0, 0, tk, tv, dg, sk, sv, vk, vv, hw, fr, og, lf, st, la, upd (upd (upd (upd fm 0 (fm 0 * sv (h - 1 - 0))) 1 (fm 1 * sv (h - 1 - 0))) 3 (fm 3 * sv (h - 1 - 0))) 4 (fm 4 * sv (h - 1 - 0)), upd fc 0 (fc 0 * sv (h - 1 - 0)), gr, wi, mn, qx, qy, ss, cl, cp, nx, ny) (zs_ok ⟨hT, zst_le hS (by omega), hV, hF, hpn, ?_, zsv_up hSV (fun i hi => ?_) zr_u zr_i zr_i zr_i zr_i zr_i zr_i zr_i zr_i⟩ rfl (nI_1 a) rfl rfl rfl rfl rfl rfl) (fun PY hp => ?_)))))
        · rw [em] at q4 ⊢
          exact zgs_map hG (zgr_scale hG.1 hm1 hm4 q4)
        · rw [pk_un (by omega), pk_un (by omega), pk_un (by omega), pk_un (by omega)]
        · refine ⟨hi, nm_r ev ⟨hi, nm_r ek (br_f (by decide) (br_f (by decide) (br_f (by decide) (br_t rfl ?_))))⟩⟩
          unfold wY_execute_245 wpY_operate
          refine y_check (by decide) hh hp48 (zst_k hS) rfl hmn (fun z => absurd hE z) (fun _ z => absurd z (by decide)) (fun _ _ _ => Yck _ (br_f q (br_f q3 (br_f q5 (br_t rfl ?_)))))
          refine br_t (by decide) (br_t (by decide) (br_f (by decide) (y_st1 (n := 1) (by decide) rfl (by omega) z1 hh rfl ?_)))
          exact br_f (by decide) (br_f (by decide) (br_f (by decide) (br_t rfl (nm_e (y_scale_l (br_f (by decide) (br_f (by decide) (br_f (by decide) (y_s259 (n := 1) (by decide) rfl z1 rfl hp)))))))))
      · have q5 : 64 < fc 0 * sv (h - 1 - 0) := Int32.not_le.mp q4
        refine br_f q4 (x_153e (by decide) (H 5 _ (nI t, 0, nI h, nI n, nI a, 5, -1, nI (s + 1), nI c, 0, 0, 0, 0, tk, tv, dg, sk, sv, vk, vv, hw, fr, og, lf, st, la, fm, fc, gr, wi, mn, qx, qy, ss, cl, cp, nx, ny) (zs_er hR' (by decide)) (fun PY hp => ?_)))
        refine ⟨hi, nm_r ev ⟨hi, nm_r ek (br_f (by decide) (br_f (by decide) (br_f (by decide) (br_t rfl ?_))))⟩⟩
        unfold wY_execute_245 wpY_operate
        refine y_check (by decide) hh hp48 (zst_k hS) rfl hmn (fun z => absurd hE z) (fun _ z => absurd z (by decide)) (fun _ _ _ => Yck _ (br_f q (br_f q3 (br_t q5 (br_f (by decide) hp)))))
    · have q3 : 4 < sv (h - 1 - 0) := Int32.not_le.mp q2
      refine br_f q2 (x_153e (by decide) (H 10 _ (nI t, 0, nI h, nI n, nI a, 10, -1, nI (s + 1), nI c, 0, 0, 0, 0, tk, tv, dg, sk, sv, vk, vv, hw, fr, og, lf, st, la, fm, fc, gr, wi, mn, qx, qy, ss, cl, cp, nx, ny) (zs_er hR' (by decide)) (fun PY hp => ?_)))
      refine ⟨hi, nm_r ev ⟨hi, nm_r ek (br_f (by decide) (br_f (by decide) (br_f (by decide) (br_t rfl ?_))))⟩⟩
      unfold wY_execute_245 wpY_operate
      refine y_check (by decide) hh hp48 (zst_k hS) rfl hmn (fun z => absurd hE z) (fun _ z => absurd z (by decide)) (fun _ _ _ => Yck _ (br_f q (br_t q3 (br_f (by decide) hp))))
theorem zgr_move {a b ox oy F x y : Int32} {f : Nat → Int32} (hg : ZGR a b ox oy f F) (hx : Zsm x) (hy : Zsm y) : ZGR a b x y (upd (upd f 2 x) 5 y) F := by
  obtain ⟨g0, g1, g2, g3, g4, g5, g6, g7, hn⟩ := hg
  exact ⟨g0, g1, rfl, g3, g4, rfl, hx, hy, hn⟩
theorem zor_0 (x : Int32) : 0 ||| x = x := by
  apply b_ext
  intro i hi
  rw [b_or, b_0, Bool.false_or]
theorem st_translate {t h n a c s pc : Nat} {PX : Int32 → SX → Prop} (hR : ZR t h n a c mA mB oX oY gY wD pC tk tv cb sk sv vk vv bp br bh bn bs bl px py pm cr sn sx sy sm sp hw fr og lf st la fm fc gr wi mn qx qy ss cl cp) (ha : a < t) (hk : tk a = 1) (hv : tv a = nI 23) (hpc : pC = nI pc) (hp48 : pc ≤ 48) (hE : ZE1 23 h sk pc = 0)
    (H : ∀ (e : Int32) (u' : SX) (v' : SY), ZStep a (s + 1) e u' v' → (∀ PY : SY → Prop, PY v' → wpY_execute PY (nI t, 0, nI h, nI n, nI a, 0, -1, nI (s + 1), nI c, nw, gn, bg, wd, tk, tv, dg, sk, sv, vk, vv, hw, fr, og, lf, st, la, fm, fc, gr, wi, mn, qx, qy, ss, cl, cp, nx, ny)) → PX e u') : wpX_execute PX (nI t, 0, nI a, nI s, -1, nI h, nI n, mA, mB, oX, oY, gY, wD, pC, nI c, tk, tv, cb, sk, sv, vk, vv, bp, br, bh, bn, bs, bl, px, py, pm, cr, sn, sx, sy, sm, sp, dg) (nI a) := by
  have hR' := hR
  obtain ⟨hT, hS, hV, hF, hPO, hG, hSV⟩ := hR
  have ht := hT.1
  have hh := hS.1
  have hmn := zg_mn hG hpc
  have hi : vp_in (nI a) 100 := vp_in_nI (by omega) (by omega)
  have e : (nI a).toNatClampNeg = a := zc_i (by omega)
  have ek : tk (nI a).toNatClampNeg = 1 := by rw [e]; exact hk
  have ev : tv (nI a).toNatClampNeg = nI 23 := by rw [e]; exact hv
  have hpn := po_next hPO ha (by rw [hk]; decide) (by rw [hk]; decide)
  obtain ⟨z1, z2, z3, z4⟩ := ze_0 hE
  have z1 : 2 ≤ h := z1
  have Yck : ∀ Q : Int32 → SY → Prop, (zof (ZDX mA mB oX (sv (h - 1 - 1)).toInt64 (sv (h - 1 - 0)).toInt64) (ZDX mA mB oY (sv (h - 1 - 0)).toInt64 (-(sv (h - 1 - 1)).toInt64)) = 0 → Q 0 (nI t, 0, nI h, nI n, nI a, 0, -1, nI (s + 1), nI c, nI (0 + 1), 0, 0, 0 ||| zof (ZDX mA mB oX (sv (h - 1 - 1)).toInt64 (sv (h - 1 - 0)).toInt64) (ZDX mA mB oY (sv (h - 1 - 0)).toInt64 (-(sv (h - 1 - 1)).toInt64)), tk, tv, dg, sk, sv, vk, vv, hw, fr, og, lf, st, la, fm, fc, gr, wi, mn, qx, qy, ss, cl, cp, upd nx 0 (ZDX mA mB oX (sv (h - 1 - 1)).toInt64 (sv (h - 1 - 0)).toInt64).toInt32, upd ny 0 (ZDX mA mB oY (sv (h - 1 - 0)).toInt64 (-(sv (h - 1 - 1)).toInt64)).toInt32)) → (zof (ZDX mA mB oX (sv (h - 1 - 1)).toInt64 (sv (h - 1 - 0)).toInt64) (ZDX mA mB oY (sv (h - 1 - 0)).toInt64 (-(sv (h - 1 - 1)).toInt64)) ≠ 0 → Q 5 (nI t, 0, nI h, nI n, nI a, 0, -1, nI (s + 1), nI c, nI (0 + 1), 0, 0, 0 ||| zof (ZDX mA mB oX (sv (h - 1 - 1)).toInt64 (sv (h - 1 - 0)).toInt64) (ZDX mA mB oY (sv (h - 1 - 0)).toInt64 (-(sv (h - 1 - 1)).toInt64)), tk, tv, dg, sk, sv, vk, vv, hw, fr, og, lf, st, la, fm, fc, gr, wi, mn, qx, qy, ss, cl, cp, upd nx 0 (ZDX mA mB oX (sv (h - 1 - 1)).toInt64 (sv (h - 1 - 0)).toInt64).toInt32, upd ny 0 (ZDX mA mB oY (sv (h - 1 - 0)).toInt64 (-(sv (h - 1 - 1)).toInt64)).toInt32)) → wY_check_87 Q (nI 23) (nI (ztk 23)) (nI t) 0 (nI h) (nI n) (nI a) 0 (-1) (nI (s + 1)) (nI c) nw gn bg wd tk tv dg sk sv vk vv hw fr og lf st la fm fc gr wi mn qx qy ss cl cp nx ny := by
    intro Q k0 k5
    refine br_t rfl (y_top (j := 1) rfl rfl hh (by omega) (y_top (j := 0) rfl rfl hh (by omega) (y_planUser (q := 0) hG.1 rfl (by omega) (Or.inl rfl) (br_f (by decide) (br_t (by decide) (br_f (by decide) (br_t rfl (br_f (by decide) (br_f (by decide) (br_f (by decide) (y_top (j := 0) rfl rfl hh (by omega) (br_f (by decide) (br_f (by decide) (br_f (by decide) (br_f (by decide) (br_f (by decide) (br_f (by decide) (br_c (fun q => br_f (by decide) (y_ck335n (by decide) (by decide) (by decide) (by decide) (by decide) (by decide) (k0 ?_))) (fun q => k5 ?_)))))))))))))))))))
    · rw [zor_0] at q; exact q
    · rw [zor_0] at q; exact q
  refine nm_r (nI_1 s) (nm_r (nI_1 a) ⟨hi, br_t ek ⟨hi, nm_r ev (x_oe0 (by decide) hh hp48 rfl hpc hE (br_t rfl (br_t (by decide) (br_f (by decide) (br_f (by decide) (br_f (by decide) (br_t (by decide) (br_t (by decide) ?_))))))))⟩⟩)
  unfold wX_execute_118 wpX_changeState
  refine x_operand (j := 0) rfl rfl hh (by omega) (br_f (by decide) (br_f (by decide) (br_f (by decide) (br_f (by decide) (br_t rfl ?_)))))
  unfold wpX_moveOrigin
  refine x_opDX (j := 0) rfl rfl hh (by omega) (x_opDY (j := 0) rfl rfl hh (by omega) (x_off ?_))
  by_cases q : zof (ZDX mA mB oX (sv (h - 1 - 1)).toInt64 (sv (h - 1 - 0)).toInt64) (ZDX mA mB oY (sv (h - 1 - 0)).toInt64 (-(sv (h - 1 - 1)).toInt64)) = 0
  · have hb := zof_0 q
    refine br_t q (x_153 (n := 2) (by decide) rfl z1 rfl (H 0 _ (nI t, 0, nI (h - 2), nI n, nI a + 1, 0, -1, nI (s + 1), nI c, nI (0 + 1), 0, 0, 0 ||| zof (ZDX mA mB oX (sv (h - 1 - 1)).toInt64 (sv (h - 1 - 0)).toInt64) (ZDX mA mB oY (sv (h - 1 - 0)).toInt64 (-(sv (h - 1 - 1)).toInt64)), tk, tv, dg, sk, sv, vk, vv, hw, fr, og, lf, st, la, upd (upd fm 2 (ZDX mA mB oX (sv (h - 1 - 1)).toInt64 (sv (h - 1 - 0)).toInt64).toInt32) 5 (ZDX mA mB oY (sv (h - 1 - 0)).toInt64 (-(sv (h - 1 - 1)).toInt64)).toInt32, fc, gr, wi, mn, qx, qy, ss, cl, cp, upd nx 0 (ZDX mA mB oX (sv (h - 1 - 1)).toInt64 (sv (h - 1 - 0)).toInt64).toInt32, upd ny 0 (ZDX mA mB oY (sv (h - 1 - 0)).toInt64 (-(sv (h - 1 - 1)).toInt64)).toInt32) (zs_ok ⟨hT, zst_le hS (by omega), hV, hF, hpn, zgs_map hG (zgr_move hG.1 hb.1 hb.2), zsv_up hSV (fun i hi => ?_) zr_i zr_i zr_i zr_i zr_i zr_i zr_i zr_i zr_i⟩ rfl (nI_1 a) rfl rfl rfl rfl rfl rfl) (fun PY hp => ?_)))
    · rw [pk_un (by omega), pk_un (by omega)]
    · refine ⟨hi, nm_r ev ⟨hi, nm_r ek (br_f (by decide) (br_f (by decide) (br_f (by decide) (br_t rfl ?_))))⟩⟩
      unfold wY_execute_245 wpY_operate
      refine y_check (by decide) hh hp48 (zst_k hS) rfl hmn (fun z => absurd hE z) (fun _ z => absurd z (by decide)) (fun _ _ _ => Yck _ (fun _ => br_t rfl ?_) (fun z => absurd q z))
      refine br_t (by decide) (br_t (by decide) (br_f (by decide) (y_st1 (n := 2) (by decide) rfl (by omega) z1 hh rfl ?_)))
      exact br_f (by decide) (br_f (by decide) (br_t rfl (y_top (j := 1) rfl rfl hh (by omega) (y_deviceX hG.1 (y_top (j := 1) rfl rfl hh (by omega) (y_deviceY hG.1 (nm_e (nm_e (br_f (by decide) (br_f (by decide) (br_f (by decide) (br_f (by decide) (y_s259 (n := 2) (by decide) rfl z1 rfl hp)))))))))))))
  · refine br_f q (x_153e (by decide) (H 5 _ (nI t, 0, nI h, nI n, nI a, 5, -1, nI (s + 1), nI c, nI (0 + 1), 0, 0, 0 ||| zof (ZDX mA mB oX (sv (h - 1 - 1)).toInt64 (sv (h - 1 - 0)).toInt64) (ZDX mA mB oY (sv (h - 1 - 0)).toInt64 (-(sv (h - 1 - 1)).toInt64)), tk, tv, dg, sk, sv, vk, vv, hw, fr, og, lf, st, la, fm, fc, gr, wi, mn, qx, qy, ss, cl, cp, upd nx 0 (ZDX mA mB oX (sv (h - 1 - 1)).toInt64 (sv (h - 1 - 0)).toInt64).toInt32, upd ny 0 (ZDX mA mB oY (sv (h - 1 - 0)).toInt64 (-(sv (h - 1 - 1)).toInt64)).toInt32) (zs_er hR' (by decide)) (fun PY hp => ?_)))
    refine ⟨hi, nm_r ev ⟨hi, nm_r ek (br_f (by decide) (br_f (by decide) (br_f (by decide) (br_t rfl ?_))))⟩⟩
    unfold wY_execute_245 wpY_operate
    refine y_check (by decide) hh hp48 (zst_k hS) rfl hmn (fun z => absurd hE z) (fun _ z => absurd z (by decide)) (fun _ _ _ => Yck _ (fun z => absurd z q) (fun _ => br_f (by decide) hp))
end
end
section
section
variable {tc ob ps su ep sd bc mA mB oX oY gY wD pC sC yt yo yh yi ya ye yp ys yc nw gn bg wd : Int32} {tk tv cb sk sv vk vv bp br bh bn bs bl px py pm cr sn sx sy sm sp dg hw fr og lf st la fm fc gr wi mn qx qy ss cl cp nx ny : Nat → Int32}
theorem zm_7 (c : Nat) : nI c * 7 = nI (7 * c) := by
  show nI c * nI 7 = _
  rw [pk_mul, Nat.mul_comm]
theorem zm_7a {c i : Nat} (hc : c < 5) (hi : i < 7) {x : Int32} (hx : x = nI i) : (nI (7 * c) + x).toNatClampNeg = 7 * c + i := by
  rw [hx, nI_add]
  exact zc_i (by omega)
theorem zm_48 (c k : Nat) : nI c * 48 + nI k = nI (48 * c + k) := by
  show nI c * nI 48 + nI k = _
  rw [pk_mul, nI_add, Nat.mul_comm]
theorem zm_24 (c k : Nat) : nI c * 24 + nI k = nI (24 * c + k) := by
  show nI c * nI 24 + nI k = _
  rw [pk_mul, nI_add, Nat.mul_comm]
theorem zm_in {c i N : Nat} {x : Int32} (hx : x = nI i) (h : 7 * c + i < N) (hN : N < 1000) : vp_in (nI (7 * c) + x) N := by
  rw [hx, nI_add]
  exact vp_in_nI h (by omega)
theorem x_save2 {post : Int32 → SX → Prop} {c : Nat} (hc : c < 4) : ∀ (d k : Nat) (sp : Nat → Int32), k + d = 24 → post 0 (tc, ob, ps, su, ep, sd, bc, mA, mB, oX, oY, gY, wD, pC, nI (c + 1), tk, tv, cb, sk, sv, vk, vv, bp, br, bh, bn, bs, bl, px, py, pm, cr, sn, sx, sy, sm, zf sp (24 * c + k) (24 * c + 24) (fun i => cr (i - 24 * c)), dg) → wX_saveState_164 post tc ob ps su ep sd bc mA mB oX oY gY wD pC (nI c) (d + 1) (nI k) tk tv cb sk sv vk vv bp br bh bn bs bl px py pm cr sn sx sy sm sp dg := by
  intro d
  induction d with
  | zero =>
    intro k sp hk kk
    have : k = 24 := by omega
    subst this
    rw [zf_z] at kk
    exact ql_t 24 24 (by omega) (nm_r (nI_1 c) kk)
  | succ d ih =>
    intro k sp hk kk
    have e : (nI k).toNatClampNeg = k := zc_i (by omega)
    have e2 : (nI c * 24 + nI k).toNatClampNeg = 24 * c + k := by rw [zm_24]; exact zc_i (by omega)
    refine ql_f 24 k (by omega) ⟨vp_in_nI (by omega) (by omega), by rw [zm_24]; exact vp_in_nI (by omega) (by omega), nm_r (show _ = upd sp (24 * c + k) (cr k) by rw [e, e2]) (nm_r (nI_1 k) (ih (k + 1) _ (by omega) ?_))⟩
    have := zf_s (a := sp) (j := 24 * c + k) (e := 24 * c + 24) (g := fun i => cr (i - 24 * c)) (by omega)
    rw [show 24 * c + k - 24 * c = k by omega] at this
    rw [show 24 * c + (k + 1) = 24 * c + k + 1 by omega, this]
    exact kk
theorem x_save1 {post : Int32 → SX → Prop} {c : Nat} (hc : c < 4) : ∀ (d k : Nat) (sx sy sm : Nat → Int32), k + d = 48 → post 0 (tc, ob, ps, su, ep, sd, bc, mA, mB, oX, oY, gY, wD, pC, nI (c + 1), tk, tv, cb, sk, sv, vk, vv, bp, br, bh, bn, bs, bl, px, py, pm, cr, sn, zf sx (48 * c + k) (48 * c + 48) (fun i => px (i - 48 * c)), zf sy (48 * c + k) (48 * c + 48) (fun i => py (i - 48 * c)), zf sm (48 * c + k) (48 * c + 48) (fun i => pm (i - 48 * c)), zf sp (24 * c) (24 * c + 24) (fun i => cr (i - 24 * c)), dg) → wX_saveState_104 post tc ob ps su ep sd bc mA mB oX oY gY wD pC (nI c) (d + 1) (nI k) tk tv cb sk sv vk vv bp br bh bn bs bl px py pm cr sn sx sy sm sp dg := by
  intro d
  induction d with
  | zero =>
    intro k sx sy sm hk kk
    have : k = 48 := by omega
    subst this
    rw [zf_z, zf_z, zf_z] at kk
    exact ql_t 48 48 (by omega) ⟨25, x_save2 hc 24 0 sp rfl kk⟩
  | succ d ih =>
    intro k sx sy sm hk kk
    have e : (nI k).toNatClampNeg = k := zc_i (by omega)
    have e2 : (nI (48 * c + k)).toNatClampNeg = 48 * c + k := zc_i (by omega)
    have i1 : vp_in (nI k) 48 := vp_in_nI (by omega) (by omega)
    have i2 : vp_in (nI (48 * c + k)) 192 := vp_in_nI (by omega) (by omega)
    refine ql_f 48 k (by omega) (nm_r (zm_48 c k) ⟨i1, i2, nm_r (show _ = upd sx (48 * c + k) (px k) by rw [e, e2]) ⟨i1, i2, nm_r (show _ = upd sy (48 * c + k) (py k) by rw [e, e2]) ⟨i1, i2, nm_r (show _ = upd sm (48 * c + k) (pm k) by rw [e, e2]) (nm_r (nI_1 k) (ih (k + 1) _ _ _ (by omega) ?_))⟩⟩⟩)
    have st : ∀ f g : Nat → Int32, zf (upd f (48 * c + k) (g k)) (48 * c + (k + 1)) (48 * c + 48) (fun i => g (i - 48 * c)) = zf f (48 * c + k) (48 * c + 48) (fun i => g (i - 48 * c)) := by
      intro f g
      have := zf_s (a := f) (j := 48 * c + k) (e := 48 * c + 48) (g := fun i => g (i - 48 * c)) (by omega)
      rw [show 48 * c + k - 48 * c = k by omega] at this
      exact this
    rw [st, st, st]
    exact kk
theorem x_save {post : Int32 → SX → Prop} {c : Nat} (hc : c < 4) (hs : sC = nI c) (k : post 0 (tc, ob, ps, su, ep, sd, bc, mA, mB, oX, oY, gY, wD, pC, nI (c + 1), tk, tv, cb, sk, sv, vk, vv, bp, br, bh, bn, bs, bl, px, py, pm, cr, upd (upd (upd (upd (upd (upd (upd sn (7 * c) mA) (7 * c + 1) mB) (7 * c + 2) oX) (7 * c + 3) oY) (7 * c + 4) gY) (7 * c + 5) wD) (7 * c + 6) pC, zf sx (48 * c) (48 * c + 48) (fun i => px (i - 48 * c)), zf sy (48 * c) (48 * c + 48) (fun i => py (i - 48 * c)), zf sm (48 * c) (48 * c + 48) (fun i => pm (i - 48 * c)), zf sp (24 * c) (24 * c + 24) (fun i => cr (i - 24 * c)), dg)) : wpX_saveState post (tc, ob, ps, su, ep, sd, bc, mA, mB, oX, oY, gY, wD, pC, sC, tk, tv, cb, sk, sv, vk, vv, bp, br, bh, bn, bs, bl, px, py, pm, cr, sn, sx, sy, sm, sp, dg) := by
  subst hs
  unfold wpX_saveState
  have e0 : (nI (7 * c)).toNatClampNeg = 7 * c := zc_i (by omega)
  refine qs_t c 4 hc (nm_r (zm_7 c) ⟨vp_in_nI (by omega) (by omega), nm_r (congrArg (fun q => upd sn q mA) e0) ⟨zm_in (i := 1) rfl (by omega) (by omega), nm_r (congrArg (fun q => upd _ q mB) (zm_7a (i := 1) (by omega) (by omega) rfl)) ⟨zm_in (i := 2) rfl (by omega) (by omega), nm_r (congrArg (fun q => upd _ q oX) (zm_7a (i := 2) (by omega) (by omega) rfl)) ⟨zm_in (i := 3) rfl (by omega) (by omega), nm_r (congrArg (fun q => upd _ q oY) (zm_7a (i := 3) (by omega) (by omega) rfl)) ⟨zm_in (i := 4) rfl (by omega) (by omega), nm_r (congrArg (fun q => upd _ q gY) (zm_7a (i := 4) (by omega) (by omega) rfl)) ⟨zm_in (i := 5) rfl (by omega) (by omega), nm_r (congrArg (fun q => upd _ q wD) (zm_7a (i := 5) (by omega) (by omega) rfl)) ⟨zm_in (i := 6) rfl (by omega) (by omega), nm_r (congrArg (fun q => upd _ q pC) (zm_7a (i := 6) (by omega) (by omega) rfl)) ⟨49, x_save1 hc 48 0 sx sy sm rfl k⟩⟩⟩⟩⟩⟩⟩⟩)
theorem x_rest2 {post : SX → Prop} {c : Nat} (hc : c < 4) : ∀ (d k : Nat) (cr : Nat → Int32), k + d = 24 → post (tc, ob, ps, su, ep, sd, bc, mA, mB, oX, oY, gY, wD, pC, nI c, tk, tv, cb, sk, sv, vk, vv, bp, br, bh, bn, bs, bl, px, py, pm, zf cr k 24 (fun j => sp (24 * c + j)), sn, sx, sy, sm, sp, dg) → wX_restoreState_172 post tc ob ps su ep sd bc mA mB oX oY gY wD pC (nI c) (d + 1) (nI k) tk tv cb sk sv vk vv bp br bh bn bs bl px py pm cr sn sx sy sm sp dg := by
  intro d
  induction d with
  | zero =>
    intro k cr hk kk
    have : k = 24 := by omega
    subst this
    rw [zf_z] at kk
    exact ql_t 24 24 (by omega) kk
  | succ d ih =>
    intro k cr hk kk
    have e : (nI k).toNatClampNeg = k := zc_i (by omega)
    have e2 : (nI c * 24 + nI k).toNatClampNeg = 24 * c + k := by rw [zm_24]; exact zc_i (by omega)
    refine ql_f 24 k (by omega) ⟨by rw [zm_24]; exact vp_in_nI (by omega) (by omega), vp_in_nI (by omega) (by omega), nm_r (show _ = upd cr k (sp (24 * c + k)) by rw [e, e2]) (nm_r (nI_1 k) (ih (k + 1) _ (by omega) ?_))⟩
    rw [zf_s (g := fun j => sp (24 * c + j)) (by omega)]
    exact kk
theorem x_rest1 {post : SX → Prop} {c : Nat} (hc : c < 4) : ∀ (d k : Nat) (px py pm : Nat → Int32), k + d = 48 → post (tc, ob, ps, su, ep, sd, bc, mA, mB, oX, oY, gY, wD, pC, nI c, tk, tv, cb, sk, sv, vk, vv, bp, br, bh, bn, bs, bl, zf px k 48 (fun j => sx (48 * c + j)), zf py k 48 (fun j => sy (48 * c + j)), zf pm k 48 (fun j => sm (48 * c + j)), zf cr 0 24 (fun j => sp (24 * c + j)), sn, sx, sy, sm, sp, dg) → wX_restoreState_112 post tc ob ps su ep sd bc mA mB oX oY gY wD pC (nI c) (d + 1) (nI k) tk tv cb sk sv vk vv bp br bh bn bs bl px py pm cr sn sx sy sm sp dg := by
  intro d
  induction d with
  | zero =>
    intro k px py pm hk kk
    have : k = 48 := by omega
    subst this
    rw [zf_z, zf_z, zf_z] at kk
    exact ql_t 48 48 (by omega) ⟨25, x_rest2 hc 24 0 cr rfl kk⟩
  | succ d ih =>
    intro k px py pm hk kk
    have e : (nI k).toNatClampNeg = k := zc_i (by omega)
    have e2 : (nI (48 * c + k)).toNatClampNeg = 48 * c + k := zc_i (by omega)
    have i1 : vp_in (nI k) 48 := vp_in_nI (by omega) (by omega)
    have i2 : vp_in (nI (48 * c + k)) 192 := vp_in_nI (by omega) (by omega)
    refine ql_f 48 k (by omega) (nm_r (zm_48 c k) ⟨i2, i1, nm_r (show _ = upd px k (sx (48 * c + k)) by rw [e, e2]) ⟨i2, i1, nm_r (show _ = upd py k (sy (48 * c + k)) by rw [e, e2]) ⟨i2, i1, nm_r (show _ = upd pm k (sm (48 * c + k)) by rw [e, e2]) (nm_r (nI_1 k) (ih (k + 1) _ _ _ (by omega) ?_))⟩⟩⟩)
    rw [zf_s (g := fun j => sx (48 * c + j)) (by omega), zf_s (g := fun j => sy (48 * c + j)) (by omega), zf_s (g := fun j => sm (48 * c + j)) (by omega)]
    exact kk
theorem x_rest {post : SX → Prop} {c : Nat} (hc : c < 4) (hs : sC = nI (c + 1)) (k : post (tc, ob, ps, su, ep, sd, bc, sn (7 * c), sn (7 * c + 1), sn (7 * c + 2), sn (7 * c + 3), sn (7 * c + 4), sn (7 * c + 5), sn (7 * c + 6), nI c, tk, tv, cb, sk, sv, vk, vv, bp, br, bh, bn, bs, bl, zf px 0 48 (fun j => sx (48 * c + j)), zf py 0 48 (fun j => sy (48 * c + j)), zf pm 0 48 (fun j => sm (48 * c + j)), zf cr 0 24 (fun j => sp (24 * c + j)), sn, sx, sy, sm, sp, dg)) : wpX_restoreState post (tc, ob, ps, su, ep, sd, bc, mA, mB, oX, oY, gY, wD, pC, sC, tk, tv, cb, sk, sv, vk, vv, bp, br, bh, bn, bs, bl, px, py, pm, cr, sn, sx, sy, sm, sp, dg) := by
  subst hs
  unfold wpX_restoreState
  have e0 : (nI (7 * c)).toNatClampNeg = 7 * c := zc_i (by omega)
  refine ql_t 1 (c + 1) (by omega) (nm_r (nI_pred c) (nm_r (zm_7 c) ⟨vp_in_nI (by omega) (by omega), nm_r (congrArg sn e0) ⟨zm_in (i := 1) rfl (by omega) (by omega), nm_r (congrArg sn (zm_7a (i := 1) (by omega) (by omega) rfl)) ⟨zm_in (i := 2) rfl (by omega) (by omega), nm_r (congrArg sn (zm_7a (i := 2) (by omega) (by omega) rfl)) ⟨zm_in (i := 3) rfl (by omega) (by omega), nm_r (congrArg sn (zm_7a (i := 3) (by omega) (by omega) rfl)) ⟨zm_in (i := 4) rfl (by omega) (by omega), nm_r (congrArg sn (zm_7a (i := 4) (by omega) (by omega) rfl)) ⟨zm_in (i := 5) rfl (by omega) (by omega), nm_r (congrArg sn (zm_7a (i := 5) (by omega) (by omega) rfl)) ⟨zm_in (i := 6) rfl (by omega) (by omega), nm_r (congrArg sn (zm_7a (i := 6) (by omega) (by omega) rfl)) ⟨49, x_rest1 hc 48 0 px py pm rfl k⟩⟩⟩⟩⟩⟩⟩⟩))
theorem zm_l {w : Nat} {x : Int32} (hx : x = nI w) (B k : Nat) : x * nI B + nI k = nI (w * B + k) := by
  rw [hx, pk_mul, nI_add]
theorem zcp_e {f : Nat → Int32} {w A B k : Nat} {G : Nat → Int32} (hAB : A ≠ B) (hk : k < w) : zf f (w * B) (w * B + k) G (w * A + k) = f (w * A + k) := by
  rcases Nat.lt_or_ge A B with h | h
  · refine zf_lo ?_
    have : w * (A + 1) ≤ w * B := Nat.mul_le_mul_left w h
    rw [Nat.mul_add] at this
    omega
  · refine zf_hi ?_
    have : w * (B + 1) ≤ w * A := Nat.mul_le_mul_left w (by omega)
    rw [Nat.mul_add] at this
    omega
theorem y_copy3 {post : SY → Prop} {A B : Nat} (hA : A < 5) (hB : B < 5) (hAB : A ≠ B) (K : post (yt, yo, yh, yi, ya, ye, yp, ys, yc, nw, gn, bg, wd, tk, tv, dg, sk, sv, vk, vv, hw, fr, og, lf, st, la, fm, fc, gr, wi, mn, qx, qy, ss, cl, zf cp (576 * B) (576 * B + 576) (fun i => vp_nar .boolean (cp (576 * A + (i - 576 * B)))), nx, ny)) : ∀ (d k : Nat), k + d = 576 → wY_copy_188 post (nI A) (nI B) yt yo yh yi ya ye yp ys yc nw gn bg wd (d + 1) (nI k) tk tv dg sk sv vk vv hw fr og lf st la fm fc gr wi mn qx qy ss cl (zf cp (576 * B) (576 * B + k) (fun i => vp_nar .boolean (cp (576 * A + (i - 576 * B))))) nx ny := by
  intro d
  induction d with
  | zero =>
    intro k hk
    have : k = 576 := by omega
    subst this
    exact ql_t 576 576 (by omega) K
  | succ d ih =>
    intro k hk
    have eA : (576 * nI A + nI k).toNatClampNeg = 576 * A + k := by rw [zm_l (w := 576) (x := 576) rfl]; exact nI_clamp (by omega)
    have eB : (576 * nI B + nI k).toNatClampNeg = 576 * B + k := by rw [zm_l (w := 576) (x := 576) rfl]; exact nI_clamp (by omega)
    refine ql_f 576 k (by omega) ⟨by rw [zm_l (w := 576) (x := 576) rfl]; exact vp_in_nI (by omega) (by omega), by rw [zm_l (w := 576) (x := 576) rfl]; exact vp_in_nI (by omega) (by omega), nm_r ?_ (nm_r (nI_1 k) (ih (k + 1) (by omega)))⟩
    rw [eA, eB, zcp_e hAB (by omega), show 576 * B + (k + 1) = 576 * B + k + 1 by omega, ← zf_e (by omega), show 576 * B + k - 576 * B = k by omega]
theorem y_copy2 {post : SY → Prop} {A B : Nat} (hA : A < 5) (hB : B < 5) (hAB : A ≠ B) (K : post (yt, yo, yh, yi, ya, ye, yp, ys, yc, nw, gn, bg, wd, tk, tv, dg, sk, sv, vk, vv, hw, fr, og, lf, st, la, fm, fc, gr, wi, mn, zf qx (48 * B) (48 * B + 48) (fun i => qx (48 * A + (i - 48 * B))), zf qy (48 * B) (48 * B + 48) (fun i => qy (48 * A + (i - 48 * B))), zf ss (48 * B) (48 * B + 48) (fun i => vp_nar .boolean (ss (48 * A + (i - 48 * B)))), zf cl (48 * B) (48 * B + 48) (fun i => vp_nar .boolean (cl (48 * A + (i - 48 * B)))), zf cp (576 * B) (576 * B + 576) (fun i => vp_nar .boolean (cp (576 * A + (i - 576 * B)))), nx, ny)) : ∀ (d k : Nat), k + d = 48 → wY_copy_86 post (nI A) (nI B) yt yo yh yi ya ye yp ys yc nw gn bg wd (d + 1) (nI k) tk tv dg sk sv vk vv hw fr og lf st la fm fc gr wi mn (zf qx (48 * B) (48 * B + k) (fun i => qx (48 * A + (i - 48 * B)))) (zf qy (48 * B) (48 * B + k) (fun i => qy (48 * A + (i - 48 * B)))) (zf ss (48 * B) (48 * B + k) (fun i => vp_nar .boolean (ss (48 * A + (i - 48 * B))))) (zf cl (48 * B) (48 * B + k) (fun i => vp_nar .boolean (cl (48 * A + (i - 48 * B))))) cp nx ny := by
  intro d
  induction d with
  | zero =>
    intro k hk
    have : k = 48 := by omega
    subst this
    have := y_copy3 (A := A) (B := B) hA hB hAB K 576 0 rfl
    rw [Nat.add_zero (576 * B), zf_z] at this
    exact ql_t 48 48 (by omega) ⟨577, this⟩
  | succ d ih =>
    intro k hk
    have eA : (48 * nI A + nI k).toNatClampNeg = 48 * A + k := by rw [zm_l (w := 48) (x := 48) rfl]; exact nI_clamp (by omega)
    have eB : (48 * nI B + nI k).toNatClampNeg = 48 * B + k := by rw [zm_l (w := 48) (x := 48) rfl]; exact nI_clamp (by omega)
    have iA : vp_in (48 * nI A + nI k) 240 := by rw [zm_l (w := 48) (x := 48) rfl]; exact vp_in_nI (by omega) (by omega)
    have iB : vp_in (48 * nI B + nI k) 240 := by rw [zm_l (w := 48) (x := 48) rfl]; exact vp_in_nI (by omega) (by omega)
    refine ql_f 48 k (by omega) ⟨iA, iB, nm_r ?_ ⟨iA, iB, nm_r ?_ ⟨iA, iB, nm_r ?_ ⟨iA, iB, nm_r ?_ (nm_r (nI_1 k) (ih (k + 1) (by omega)))⟩⟩⟩⟩
    · rw [eA, eB, zcp_e hAB (by omega), show 48 * B + (k + 1) = 48 * B + k + 1 by omega, ← zf_e (by omega), show 48 * B + k - 48 * B = k by omega]
    · rw [eA, eB, zcp_e hAB (by omega), show 48 * B + (k + 1) = 48 * B + k + 1 by omega, ← zf_e (by omega), show 48 * B + k - 48 * B = k by omega]
    · rw [eA, eB, zcp_e hAB (by omega), show 48 * B + (k + 1) = 48 * B + k + 1 by omega, ← zf_e (by omega), show 48 * B + k - 48 * B = k by omega]
    · rw [eA, eB, zcp_e hAB (by omega), show 48 * B + (k + 1) = 48 * B + k + 1 by omega, ← zf_e (by omega), show 48 * B + k - 48 * B = k by omega]
theorem y_copy1 {post : SY → Prop} {A B : Nat} (hA : A < 5) (hB : B < 5) (hAB : A ≠ B) (K : post (yt, yo, yh, yi, ya, ye, yp, ys, yc, nw, gn, bg, wd, tk, tv, dg, sk, sv, vk, vv, hw, fr, og, lf, st, la, zf fm (6 * B) (6 * B + 6) (fun i => fm (6 * A + (i - 6 * B))), upd fc B (fc A), upd gr B (gr A), upd wi B (wi A), upd mn B (mn A), zf qx (48 * B) (48 * B + 48) (fun i => qx (48 * A + (i - 48 * B))), zf qy (48 * B) (48 * B + 48) (fun i => qy (48 * A + (i - 48 * B))), zf ss (48 * B) (48 * B + 48) (fun i => vp_nar .boolean (ss (48 * A + (i - 48 * B)))), zf cl (48 * B) (48 * B + 48) (fun i => vp_nar .boolean (cl (48 * A + (i - 48 * B)))), zf cp (576 * B) (576 * B + 576) (fun i => vp_nar .boolean (cp (576 * A + (i - 576 * B)))), nx, ny)) : ∀ (d k : Nat), k + d = 6 → wY_copy_2 post (nI A) (nI B) yt yo yh yi ya ye yp ys yc nw gn bg wd (d + 1) (nI k) tk tv dg sk sv vk vv hw fr og lf st la (zf fm (6 * B) (6 * B + k) (fun i => fm (6 * A + (i - 6 * B)))) fc gr wi mn qx qy ss cl cp nx ny := by
  intro d
  induction d with
  | zero =>
    intro k hk
    have : k = 6 := by omega
    subst this
    have := y_copy2 (A := A) (B := B) hA hB hAB K 48 0 rfl
    rw [Nat.add_zero (48 * B), zf_z, zf_z, zf_z, zf_z] at this
    have iA : vp_in (nI A) 5 := vp_in_nI hA (by omega)
    have iB : vp_in (nI B) 5 := vp_in_nI hB (by omega)
    have eA : (nI A).toNatClampNeg = A := zc_i (by omega)
    have eB : (nI B).toNatClampNeg = B := zc_i (by omega)
    exact ql_t 6 6 (by omega) ⟨iA, iB, nm_r (show _ = upd fc B (fc A) by rw [eA, eB]) ⟨iA, iB, nm_r (show _ = upd gr B (gr A) by rw [eA, eB]) ⟨iA, iB, nm_r (show _ = upd wi B (wi A) by rw [eA, eB]) ⟨iA, iB, nm_r (show _ = upd mn B (mn A) by rw [eA, eB]) ⟨49, this⟩⟩⟩⟩⟩
  | succ d ih =>
    intro k hk
    have eA : (6 * nI A + nI k).toNatClampNeg = 6 * A + k := by rw [zm_l (w := 6) (x := 6) rfl]; exact nI_clamp (by omega)
    have eB : (6 * nI B + nI k).toNatClampNeg = 6 * B + k := by rw [zm_l (w := 6) (x := 6) rfl]; exact nI_clamp (by omega)
    have iA : vp_in (6 * nI A + nI k) 30 := by rw [zm_l (w := 6) (x := 6) rfl]; exact vp_in_nI (by omega) (by omega)
    have iB : vp_in (6 * nI B + nI k) 30 := by rw [zm_l (w := 6) (x := 6) rfl]; exact vp_in_nI (by omega) (by omega)
    refine ql_f 6 k (by omega) ⟨iA, iB, nm_r ?_ (nm_r (nI_1 k) (ih (k + 1) (by omega)))⟩
    rw [eA, eB, zcp_e hAB (by omega), show 6 * B + (k + 1) = 6 * B + k + 1 by omega, ← zf_e (by omega), show 6 * B + k - 6 * B = k by omega]
theorem y_copy {post : SY → Prop} {A B : Nat} {x y : Int32} (hA : A < 5) (hB : B < 5) (hAB : A ≠ B) (hx : x = nI A) (hy : y = nI B) (K : post (yt, yo, yh, yi, ya, ye, yp, ys, yc, nw, gn, bg, wd, tk, tv, dg, sk, sv, vk, vv, hw, fr, og, lf, st, la, zf fm (6 * B) (6 * B + 6) (fun i => fm (6 * A + (i - 6 * B))), upd fc B (fc A), upd gr B (gr A), upd wi B (wi A), upd mn B (mn A), zf qx (48 * B) (48 * B + 48) (fun i => qx (48 * A + (i - 48 * B))), zf qy (48 * B) (48 * B + 48) (fun i => qy (48 * A + (i - 48 * B))), zf ss (48 * B) (48 * B + 48) (fun i => vp_nar .boolean (ss (48 * A + (i - 48 * B)))), zf cl (48 * B) (48 * B + 48) (fun i => vp_nar .boolean (cl (48 * A + (i - 48 * B)))), zf cp (576 * B) (576 * B + 576) (fun i => vp_nar .boolean (cp (576 * A + (i - 576 * B)))), nx, ny)) : wpY_copy post (yt, yo, yh, yi, ya, ye, yp, ys, yc, nw, gn, bg, wd, tk, tv, dg, sk, sv, vk, vv, hw, fr, og, lf, st, la, fm, fc, gr, wi, mn, qx, qy, ss, cl, cp, nx, ny) x y := by
  subst hx hy
  have := y_copy1 (A := A) (B := B) hA hB hAB K 6 0 rfl
  rw [Nat.add_zero (6 * B), zf_z] at this
  exact ⟨7, this⟩
theorem zft_c {ss' : Nat → Int32} {k : Nat} (h : ∀ j, j ≤ k → ss' j = ss j) : Zft ss' k = Zft ss k := by
  induction k with
  | zero => rfl
  | succ k ih =>
    by_cases e : ss (k + 1) = 0
    · rw [zft_0 e, zft_0 (by rw [h _ (Nat.le_refl _)]; exact e)]
      exact ih (fun j hj => h j (by omega))
    · rw [zft_s e, zft_s (by rw [h _ (Nat.le_refl _)]; exact e)]
theorem zpt_c {px' py' pm' qx' qy' ss' cl' : Nat → Int32} {pc : Nat} (h : ZPT pc px py pm qx qy ss cl) (e1 : ∀ k, k < 48 → px' k = px k) (e2 : ∀ k, k < 48 → py' k = py k) (e3 : ∀ k, k < 48 → pm' k = pm k) (e4 : ∀ k, k < 48 → qx' k = qx k) (e5 : ∀ k, k < 48 → qy' k = qy k) (e6 : ∀ k, k < 48 → Zb2 (ss k) → ss' k = ss k) (e7 : ∀ k, k < 48 → Zb2 (cl k) → cl' k = cl k) : ZPT pc px' py' pm' qx' qy' ss' cl' := by
  obtain ⟨h1, h2, h3⟩ := h
  have es : ∀ k, k < pc → ss' k = ss k := fun k hk => e6 k (by omega) (h3 k hk).2.2.1
  have ec : ∀ k, k < pc → cl' k = cl k := fun k hk => e7 k (by omega) (h3 k hk).2.2.2.1
  refine ⟨h1, fun hp => by rw [es 0 hp]; exact h2 hp, fun k hk => ?_⟩
  obtain ⟨a1, a2, a3, a4, a5, a6, a7⟩ := h3 k hk
  have hf : Zft ss' k = Zft ss k := zft_c (fun j hj => es j (by omega))
  have hl := zft_le ss k
  refine ⟨by rw [e4 k (by omega), e1 k (by omega)]; exact a1, by rw [e5 k (by omega), e2 k (by omega)]; exact a2, by rw [es k hk]; exact a3, by rw [ec k hk]; exact a4, ?_, by rw [e1 k (by omega)]; exact a6, by rw [e2 k (by omega)]; exact a7⟩
  rw [e3 k (by omega), es k hk, hf, ec _ (by omega)]
  exact a5
theorem zgs_c {a b ox oy g w m F G W M : Int32} {f f' px' py' pm' cr' qx' qy' ss' cl' cp' : Nat → Int32} (h : ZGS a b ox oy g w m px py pm cr f F G W M qx qy ss cl cp) (e0 : ∀ k, k < 6 → f' k = f k) (e1 : ∀ k, k < 48 → px' k = px k) (e2 : ∀ k, k < 48 → py' k = py k) (e3 : ∀ k, k < 48 → pm' k = pm k) (e8 : ∀ j, j < 24 → cr' j = cr j) (e4 : ∀ k, k < 48 → qx' k = qx k) (e5 : ∀ k, k < 48 → qy' k = qy k) (e6 : ∀ k, k < 48 → Zb2 (ss k) → ss' k = ss k) (e7 : ∀ k, k < 48 → Zb2 (cl k) → cl' k = cl k) (e9 : ∀ k, k < 576 → Zb2 (cp k) → cp' k = cp k) : ZGS a b ox oy g w m px' py' pm' cr' f' F G W M qx' qy' ss' cl' cp' := by
  obtain ⟨⟨g0, g1, g2, g3, g4, g5, g6⟩, h1, h2, h3, ⟨pc, h4, h5⟩, h6⟩ := h
  refine ⟨⟨?_, ?_, ?_, ?_, ?_, ?_, g6⟩, h1, h2, h3, ⟨pc, h4, zpt_c h5 e1 e2 e3 e4 e5 e6 e7⟩, fun j hj => ?_⟩
  · rw [e0 0 (by omega)]; exact g0
  · rw [e0 1 (by omega)]; exact g1
  · rw [e0 2 (by omega)]; exact g2
  · rw [e0 3 (by omega)]; exact g3
  · rw [e0 4 (by omega)]; exact g4
  · rw [e0 5 (by omega)]; exact g5
  · rw [e8 j hj]
    refine ⟨fun i hi => ?_, (h6 j hj).2⟩
    have := (h6 j hj).1 i hi
    rw [e9 _ (by omega) this.1]
    exact this
theorem st_gsave {t h n a c s pc : Nat} {PX : Int32 → SX → Prop} (hR : ZR t h n a c mA mB oX oY gY wD pC tk tv cb sk sv vk vv bp br bh bn bs bl px py pm cr sn sx sy sm sp hw fr og lf st la fm fc gr wi mn qx qy ss cl cp) (ha : a < t) (hk : tk a = 1) (hv : tv a = nI 21) (hpc : pC = nI pc) (hp48 : pc ≤ 48) (hE : ZE1 21 h sk pc = 0)
    (H : ∀ (e : Int32) (u' : SX) (v' : SY), ZStep a (s + 1) e u' v' → (∀ PY : SY → Prop, PY v' → wpY_execute PY (nI t, 0, nI h, nI n, nI a, 0, -1, nI (s + 1), nI c, nw, gn, bg, wd, tk, tv, dg, sk, sv, vk, vv, hw, fr, og, lf, st, la, fm, fc, gr, wi, mn, qx, qy, ss, cl, cp, nx, ny)) → PX e u') : wpX_execute PX (nI t, 0, nI a, nI s, -1, nI h, nI n, mA, mB, oX, oY, gY, wD, pC, nI c, tk, tv, cb, sk, sv, vk, vv, bp, br, bh, bn, bs, bl, px, py, pm, cr, sn, sx, sy, sm, sp, dg) (nI a) := by
  have hR' := hR
  obtain ⟨hT, hS, hV, hF, hPO, hG, hSV⟩ := hR
  have ht := hT.1
  have hh := hS.1
  have hmn := zg_mn hG hpc
  have hi : vp_in (nI a) 100 := vp_in_nI (by omega) (by omega)
  have e : (nI a).toNatClampNeg = a := zc_i (by omega)
  have ek : tk (nI a).toNatClampNeg = 1 := by rw [e]; exact hk
  have ev : tv (nI a).toNatClampNeg = nI 21 := by rw [e]; exact hv
  have hpn := po_next hPO ha (by rw [hk]; decide) (by rw [hk]; decide)
  obtain ⟨z1, z2, z3, z4⟩ := ze_0 hE
  have z1 : 0 ≤ h := z1
  have hc4 := hSV.1
  have Yck : ∀ Q : Int32 → SY → Prop, (c = 4 → Q 7 (nI t, 0, nI h, nI n, nI a, 0, -1, nI (s + 1), nI c, 0, 0, 0, 0, tk, tv, dg, sk, sv, vk, vv, hw, fr, og, lf, st, la, fm, fc, gr, wi, mn, qx, qy, ss, cl, cp, nx, ny)) → (c ≠ 4 → Q 0 (nI t, 0, nI h, nI n, nI a, 0, -1, nI (s + 1), nI c, 0, 0, 0, 0, tk, tv, dg, sk, sv, vk, vv, hw, fr, og, lf, st, la, fm, fc, gr, wi, mn, qx, qy, ss, cl, cp, nx, ny)) → wY_check_87 Q (nI 21) (nI (ztk 21)) (nI t) 0 (nI h) (nI n) (nI a) 0 (-1) (nI (s + 1)) (nI c) nw gn bg wd tk tv dg sk sv vk vv hw fr og lf st la fm fc gr wi mn qx qy ss cl cp nx ny := by
    intro Q k7 k0
    refine y_plan0 (by decide) (by decide) (by decide) (br_f (by decide) (br_f (by decide) (br_f (y_48 hmn hp48) (br_t rfl (pk_eq c 4 (fun q => k7 q) (fun q => y_ck179 (n := 0) rfl hh z1 rfl (by decide) (by decide) (by decide) (by decide) (by decide) (by decide) (y_ck335n (by decide) (by decide) (by decide) (by decide) (by decide) (by decide) (k0 q))))))))
  refine nm_r (nI_1 s) (nm_r (nI_1 a) ⟨hi, br_t ek ⟨hi, nm_r ev (x_oe0 (by decide) hh hp48 rfl hpc hE (br_t rfl (br_t (by decide) (br_f (by decide) (br_f (by decide) (br_f (by decide) (br_t (by decide) (br_t (by decide) (?_)))))))))⟩⟩)
  unfold wX_execute_118 wpX_changeState
  refine x_operandA (j := 0) rfl rfl hh (by omega) (fun _ => br_f (by decide) (br_f (by decide) (br_t rfl (?_))))
  by_cases c4 : c = 4
  · unfold wpX_saveState
    refine br_f (by rw [c4]; decide) (x_153e (by decide) (H 7 _ (nI t, 0, nI h, nI n, nI a, 7, -1, nI (s + 1), nI c, 0, 0, 0, 0, tk, tv, dg, sk, sv, vk, vv, hw, fr, og, lf, st, la, fm, fc, gr, wi, mn, qx, qy, ss, cl, cp, nx, ny) (zs_er hR' (by decide)) (fun PY hp => ?_)))
    refine ⟨hi, nm_r ev ⟨hi, nm_r ek (br_f (by decide) (br_f (by decide) (br_f (by decide) (br_t rfl ?_))))⟩⟩
    unfold wY_execute_245 wpY_operate
    refine y_check (by decide) hh hp48 (zst_k hS) rfl hmn (fun z => absurd hE z) (fun _ z => absurd z (by decide)) (fun _ _ _ => Yck _ (fun _ => br_f (by decide) hp) (fun z => absurd c4 z))
  · refine x_save (by omega) rfl (x_153 (n := 0) (by decide) rfl z1 rfl (H 0 _ (nI t, 0, nI h, nI n, nI a + 1, 0, -1, nI (s + 1), nI (c + 1), 0, 0, 0, 0, tk, tv, dg, sk, sv, vk, vv, hw, fr, og, lf, st, la, zf fm (6 * (c + 1)) (6 * (c + 1) + 6) (fun i => fm (6 * 0 + (i - 6 * (c + 1)))), upd fc (c + 1) (fc 0), upd gr (c + 1) (gr 0), upd wi (c + 1) (wi 0), upd mn (c + 1) (mn 0), zf qx (48 * (c + 1)) (48 * (c + 1) + 48) (fun i => qx (48 * 0 + (i - 48 * (c + 1)))), zf qy (48 * (c + 1)) (48 * (c + 1) + 48) (fun i => qy (48 * 0 + (i - 48 * (c + 1)))), zf ss (48 * (c + 1)) (48 * (c + 1) + 48) (fun i => vp_nar .boolean (ss (48 * 0 + (i - 48 * (c + 1))))), zf cl (48 * (c + 1)) (48 * (c + 1) + 48) (fun i => vp_nar .boolean (cl (48 * 0 + (i - 48 * (c + 1))))), zf cp (576 * (c + 1)) (576 * (c + 1) + 576) (fun i => vp_nar .boolean (cp (576 * 0 + (i - 576 * (c + 1))))), nx, ny) (zs_ok (c := c + 1) ⟨hT, hS, hV, hF, hpn, ?_, ?_⟩ rfl (nI_1 a) rfl rfl rfl rfl rfl rfl) (fun PY hp => ?_)))
    · rw [pk_un (by omega), pk_un (by omega), pk_un (by omega), pk_un (by omega)]
      exact zgs_c hG (fun k hk => zf_lo (by omega)) (fun _ _ => rfl) (fun _ _ => rfl) (fun _ _ => rfl) (fun _ _ => rfl) (fun k hk => zf_lo (by omega)) (fun k hk => zf_lo (by omega)) (fun k hk _ => zf_lo (by omega)) (fun k hk _ => zf_lo (by omega)) (fun k hk _ => zf_lo (by omega))
    · refine ⟨by omega, fun i hi => ?_⟩
      by_cases ei : i = c
      · subst ei
        have f0 : ∀ k, k < 7 → k ≠ 0 → True := fun _ _ _ => trivial
        have g : ZGS mA mB oX oY gY wD pC _ _ _ _ _ (fc 0) (gr 0) (wi 0) (mn 0) _ _ _ _ _ := zgs_c hG (f' := fun k => zf fm (6 * (i + 1)) (6 * (i + 1) + 6) (fun q => fm (6 * 0 + (q - 6 * (i + 1)))) (6 * (i + 1) + k)) (px' := fun k => zf sx (48 * i) (48 * i + 48) (fun q => px (q - 48 * i)) (48 * i + k)) (py' := fun k => zf sy (48 * i) (48 * i + 48) (fun q => py (q - 48 * i)) (48 * i + k)) (pm' := fun k => zf sm (48 * i) (48 * i + 48) (fun q => pm (q - 48 * i)) (48 * i + k)) (cr' := fun k => zf sp (24 * i) (24 * i + 24) (fun q => cr (q - 24 * i)) (24 * i + k))
          (qx' := fun k => zf qx (48 * (i + 1)) (48 * (i + 1) + 48) (fun q => qx (48 * 0 + (q - 48 * (i + 1)))) (48 * (i + 1) + k)) (qy' := fun k => zf qy (48 * (i + 1)) (48 * (i + 1) + 48) (fun q => qy (48 * 0 + (q - 48 * (i + 1)))) (48 * (i + 1) + k)) (ss' := fun k => zf ss (48 * (i + 1)) (48 * (i + 1) + 48) (fun q => vp_nar .boolean (ss (48 * 0 + (q - 48 * (i + 1))))) (48 * (i + 1) + k)) (cl' := fun k => zf cl (48 * (i + 1)) (48 * (i + 1) + 48) (fun q => vp_nar .boolean (cl (48 * 0 + (q - 48 * (i + 1))))) (48 * (i + 1) + k)) (cp' := fun k => zf cp (576 * (i + 1)) (576 * (i + 1) + 576) (fun q => vp_nar .boolean (cp (576 * 0 + (q - 576 * (i + 1))))) (576 * (i + 1) + k))
          (fun k hk => ?_) (fun k hk => ?_) (fun k hk => ?_) (fun k hk => ?_) (fun k hk => ?_) (fun k hk => ?_) (fun k hk => ?_) (fun k hk hb => ?_) (fun k hk hb => ?_) (fun k hk hb => ?_)
        · simp only [pk_us, pk_un (show 7 * i ≠ 7 * i + 1 by omega), pk_un (show 7 * i ≠ 7 * i + 2 by omega), pk_un (show 7 * i ≠ 7 * i + 3 by omega), pk_un (show 7 * i ≠ 7 * i + 4 by omega), pk_un (show 7 * i ≠ 7 * i + 5 by omega), pk_un (show 7 * i ≠ 7 * i + 6 by omega), pk_un (show 7 * i + 1 ≠ 7 * i + 2 by omega), pk_un (show 7 * i + 1 ≠ 7 * i + 3 by omega), pk_un (show 7 * i + 1 ≠ 7 * i + 4 by omega), pk_un (show 7 * i + 1 ≠ 7 * i + 5 by omega), pk_un (show 7 * i + 1 ≠ 7 * i + 6 by omega), pk_un (show 7 * i + 2 ≠ 7 * i + 3 by omega), pk_un (show 7 * i + 2 ≠ 7 * i + 4 by omega), pk_un (show 7 * i + 2 ≠ 7 * i + 5 by omega), pk_un (show 7 * i + 2 ≠ 7 * i + 6 by omega), pk_un (show 7 * i + 3 ≠ 7 * i + 4 by omega), pk_un (show 7 * i + 3 ≠ 7 * i + 5 by omega), pk_un (show 7 * i + 3 ≠ 7 * i + 6 by omega), pk_un (show 7 * i + 4 ≠ 7 * i + 5 by omega), pk_un (show 7 * i + 4 ≠ 7 * i + 6 by omega), pk_un (show 7 * i + 5 ≠ 7 * i + 6 by omega)]
          exact g
        · rw [zf_in (by omega) (by omega)]; exact congrArg fm (by omega)
        · rw [zf_in (by omega) (by omega)]; exact congrArg px (by omega)
        · rw [zf_in (by omega) (by omega)]; exact congrArg py (by omega)
        · rw [zf_in (by omega) (by omega)]; exact congrArg pm (by omega)
        · rw [zf_in (by omega) (by omega)]; exact congrArg cr (by omega)
        · rw [zf_in (by omega) (by omega)]; exact congrArg qx (by omega)
        · rw [zf_in (by omega) (by omega)]; exact congrArg qy (by omega)
        · rw [zf_in (by omega) (by omega), show 48 * 0 + (48 * (i + 1) + k - 48 * (i + 1)) = k by omega]; exact zb_b hb
        · rw [zf_in (by omega) (by omega), show 48 * 0 + (48 * (i + 1) + k - 48 * (i + 1)) = k by omega]; exact zb_b hb
        · rw [zf_in (by omega) (by omega), show 576 * 0 + (576 * (i + 1) + k - 576 * (i + 1)) = k by omega]; exact zb_b hb
      · have hic : i < c := by omega
        have g := hSV.2 i hic
        have sne : ∀ r, r < 7 → (upd (upd (upd (upd (upd (upd (upd sn (7 * c) mA) (7 * c + 1) mB) (7 * c + 2) oX) (7 * c + 3) oY) (7 * c + 4) gY) (7 * c + 5) wD) (7 * c + 6) pC) (7 * i + r) = sn (7 * i + r) := by
          intro r hr
          rw [pk_un (by omega), pk_un (by omega), pk_un (by omega), pk_un (by omega), pk_un (by omega), pk_un (by omega), pk_un (by omega)]
        have s0 := sne 0 (by omega)
        rw [Nat.add_zero (7 * i)] at s0
        rw [s0, sne 1 (by omega), sne 2 (by omega), sne 3 (by omega), sne 4 (by omega), sne 5 (by omega), sne 6 (by omega), pk_un (f := fc) (by omega), pk_un (f := gr) (by omega), pk_un (f := wi) (by omega), pk_un (f := mn) (by omega)]
        exact zgs_c g (fun k hk => zf_lo (by omega)) (fun k hk => zf_lo (by omega)) (fun k hk => zf_lo (by omega)) (fun k hk => zf_lo (by omega)) (fun k hk => zf_lo (by omega)) (fun k hk => zf_lo (by omega)) (fun k hk => zf_lo (by omega)) (fun k hk _ => zf_lo (by omega)) (fun k hk _ => zf_lo (by omega)) (fun k hk _ => zf_lo (by omega))
    · refine ⟨hi, nm_r ev ⟨hi, nm_r ek (br_f (by decide) (br_f (by decide) (br_f (by decide) (br_t rfl ?_))))⟩⟩
      unfold wY_execute_245 wpY_operate
      refine y_check (by decide) hh hp48 (zst_k hS) rfl hmn (fun z => absurd hE z) (fun _ z => absurd z (by decide)) (fun _ _ _ => Yck _ (fun z => absurd z c4) (fun _ => br_t rfl ?_))
      refine br_t (by decide) (br_t (by decide) (br_f (by decide) (y_st0 (by decide) rfl ?_)))
      refine br_t rfl (nm_r (nI_1 c) (y_copy (A := 0) (B := c + 1) (by omega) (by omega) (by omega) rfl rfl ?_))
      exact br_f (by decide) (br_f (by decide) (br_f (by decide) (br_f (by decide) (br_f (by decide) (br_f (by decide) (y_s259 (n := 0) (by decide) rfl z1 rfl hp))))))
theorem st_grestore {t h n a c s pc : Nat} {PX : Int32 → SX → Prop} (hR : ZR t h n a c mA mB oX oY gY wD pC tk tv cb sk sv vk vv bp br bh bn bs bl px py pm cr sn sx sy sm sp hw fr og lf st la fm fc gr wi mn qx qy ss cl cp) (ha : a < t) (hk : tk a = 1) (hv : tv a = nI 22) (hpc : pC = nI pc) (hp48 : pc ≤ 48) (hE : ZE1 22 h sk pc = 0)
    (H : ∀ (e : Int32) (u' : SX) (v' : SY), ZStep a (s + 1) e u' v' → (∀ PY : SY → Prop, PY v' → wpY_execute PY (nI t, 0, nI h, nI n, nI a, 0, -1, nI (s + 1), nI c, nw, gn, bg, wd, tk, tv, dg, sk, sv, vk, vv, hw, fr, og, lf, st, la, fm, fc, gr, wi, mn, qx, qy, ss, cl, cp, nx, ny)) → PX e u') : wpX_execute PX (nI t, 0, nI a, nI s, -1, nI h, nI n, mA, mB, oX, oY, gY, wD, pC, nI c, tk, tv, cb, sk, sv, vk, vv, bp, br, bh, bn, bs, bl, px, py, pm, cr, sn, sx, sy, sm, sp, dg) (nI a) := by
  have hR' := hR
  obtain ⟨hT, hS, hV, hF, hPO, hG, hSV⟩ := hR
  have ht := hT.1
  have hh := hS.1
  have hmn := zg_mn hG hpc
  have hi : vp_in (nI a) 100 := vp_in_nI (by omega) (by omega)
  have e : (nI a).toNatClampNeg = a := zc_i (by omega)
  have ek : tk (nI a).toNatClampNeg = 1 := by rw [e]; exact hk
  have ev : tv (nI a).toNatClampNeg = nI 22 := by rw [e]; exact hv
  have hpn := po_next hPO ha (by rw [hk]; decide) (by rw [hk]; decide)
  obtain ⟨z1, z2, z3, z4⟩ := ze_0 hE
  have z1 : 0 ≤ h := z1
  have hc4 := hSV.1
  refine nm_r (nI_1 s) (nm_r (nI_1 a) ⟨hi, br_t ek ⟨hi, nm_r ev (x_oe0 (by decide) hh hp48 rfl hpc hE (br_t rfl (br_t (by decide) (br_f (by decide) (br_f (by decide) (br_f (by decide) (br_t (by decide) (br_t (by decide) (?_)))))))))⟩⟩)
  unfold wX_execute_118 wpX_changeState
  refine x_operandA (j := 0) rfl rfl hh (by omega) (fun _ => br_f (by decide) (br_f (by decide) (br_f (by decide) (br_t rfl (?_)))))
  by_cases c0 : c = 0
  · unfold wpX_restoreState
    refine br_f (by rw [c0]; decide) (x_153 (n := 0) (by decide) rfl z1 rfl (H 0 _ (nI t, 0, nI h, nI n, nI a + 1, 0, -1, nI (s + 1), nI c, 0, 0, 0, 0, tk, tv, dg, sk, sv, vk, vv, hw, fr, og, lf, st, la, fm, fc, gr, wi, mn, qx, qy, ss, cl, cp, nx, ny) (zs_ok ⟨hT, hS, hV, hF, hpn, hG, hSV⟩ rfl (nI_1 a) rfl rfl rfl rfl rfl rfl) (fun PY hp => ?_)))
    refine ⟨hi, nm_r ev ⟨hi, nm_r ek (br_f (by decide) (br_f (by decide) (br_f (by decide) (br_t rfl ?_))))⟩⟩
    unfold wY_execute_245 wpY_operate
    refine y_check (by decide) hh hp48 (zst_k hS) rfl hmn (fun z => absurd hE z) (fun _ z => absurd z (by decide)) (fun _ _ _ => y_ck87 rfl hh z1 hmn hp48 (by decide) (by decide) (by decide) (by decide) (by decide) (by decide) (by decide) (by decide) (by decide) (by decide) (by decide) (y_ck335n (by decide) (by decide) (by decide) (by decide) (by decide) (by decide) (br_t rfl ?_)))
    refine br_t (by decide) (br_t (by decide) (br_f (by decide) (y_st0 (by decide) rfl ?_)))
    exact br_f (by decide) (br_t rfl (br_t (by rw [c0]; decide) (br_f (by decide) (br_f (by decide) (br_f (by decide) (br_f (by decide) (br_f (by decide) (y_s259 (n := 0) (by decide) rfl z1 rfl hp))))))))
  · obtain ⟨m, rfl⟩ : ∃ m, c = m + 1 := ⟨c - 1, by omega⟩
    have g := hSV.2 m (by omega)
    refine x_rest (by omega) rfl (x_153 (n := 0) (by decide) rfl z1 rfl (H 0 _ (nI t, 0, nI h, nI n, nI a + 1, 0, -1, nI (s + 1), nI m, 0, 0, 0, 0, tk, tv, dg, sk, sv, vk, vv, hw, fr, og, lf, st, la, zf fm (6 * 0) (6 * 0 + 6) (fun i => fm (6 * (m + 1) + (i - 6 * 0))), upd fc 0 (fc (m + 1)), upd gr 0 (gr (m + 1)), upd wi 0 (wi (m + 1)), upd mn 0 (mn (m + 1)), zf qx (48 * 0) (48 * 0 + 48) (fun i => qx (48 * (m + 1) + (i - 48 * 0))), zf qy (48 * 0) (48 * 0 + 48) (fun i => qy (48 * (m + 1) + (i - 48 * 0))), zf ss (48 * 0) (48 * 0 + 48) (fun i => vp_nar .boolean (ss (48 * (m + 1) + (i - 48 * 0)))), zf cl (48 * 0) (48 * 0 + 48) (fun i => vp_nar .boolean (cl (48 * (m + 1) + (i - 48 * 0)))), zf cp (576 * 0) (576 * 0 + 576) (fun i => vp_nar .boolean (cp (576 * (m + 1) + (i - 576 * 0)))), nx, ny) (zs_ok (c := m) ⟨hT, hS, hV, hF, hpn, ?_, ?_⟩ rfl (nI_1 a) rfl rfl rfl rfl rfl rfl) (fun PY hp => ?_)))
    · refine zgs_c g (fun k hk => ?_) (fun k hk => ?_) (fun k hk => ?_) (fun k hk => ?_) (fun k hk => ?_) (fun k hk => ?_) (fun k hk => ?_) (fun k hk hb => ?_) (fun k hk hb => ?_) (fun k hk hb => ?_)
      · rw [zf_in (by omega) (by omega)]; exact congrArg fm (by omega)
      · rw [zf_in (by omega) (by omega)]
      · rw [zf_in (by omega) (by omega)]
      · rw [zf_in (by omega) (by omega)]
      · rw [zf_in (by omega) (by omega)]
      · rw [zf_in (by omega) (by omega)]; exact congrArg qx (by omega)
      · rw [zf_in (by omega) (by omega)]; exact congrArg qy (by omega)
      · rw [zf_in (by omega) (by omega), show 48 * (m + 1) + (k - 48 * 0) = 48 * (m + 1) + k by omega]; exact zb_b hb
      · rw [zf_in (by omega) (by omega), show 48 * (m + 1) + (k - 48 * 0) = 48 * (m + 1) + k by omega]; exact zb_b hb
      · rw [zf_in (by omega) (by omega), show 576 * (m + 1) + (k - 576 * 0) = 576 * (m + 1) + k by omega]; exact zb_b hb
    · refine zsv_up ⟨by omega, fun i hi => hSV.2 i (by omega)⟩ (fun i hi => zf_hi (by omega)) zr_u zr_u zr_u zr_u (fun i hi => zf_hi (by omega)) (fun i hi => zf_hi (by omega)) (fun i hi => zf_hi (by omega)) (fun i hi => zf_hi (by omega)) (fun i hi => zf_hi (by omega))
    · refine ⟨hi, nm_r ev ⟨hi, nm_r ek (br_f (by decide) (br_f (by decide) (br_f (by decide) (br_t rfl ?_))))⟩⟩
      unfold wY_execute_245 wpY_operate
      refine y_check (by decide) hh hp48 (zst_k hS) rfl hmn (fun z => absurd hE z) (fun _ z => absurd z (by decide)) (fun _ _ _ => y_ck87 rfl hh z1 hmn hp48 (by decide) (by decide) (by decide) (by decide) (by decide) (by decide) (by decide) (by decide) (by decide) (by decide) (by decide) (y_ck335n (by decide) (by decide) (by decide) (by decide) (by decide) (by decide) (br_t rfl ?_)))
      refine br_t (by decide) (br_t (by decide) (br_f (by decide) (y_st0 (by decide) rfl ?_)))
      refine br_f (by decide) (br_t rfl (ql_f (m + 1) 0 (by omega) (y_copy (A := m + 1) (B := 0) (by omega) (by omega) (by omega) rfl rfl (nm_r (nI_pred m) ?_))))
      exact br_f (by decide) (br_f (by decide) (br_f (by decide) (br_f (by decide) (br_f (by decide) (y_s259 (n := 0) (by decide) rfl z1 rfl hp)))))
end
end
section
section
variable {tc ob ps su ep sd bc mA mB oX oY gY wD pC sC yt yo yh yi ya ye yp ys yc nw gn bg wd : Int32} {tk tv cb sk sv vk vv bp br bh bn bs bl px py pm cr sn sx sy sm sp dg hw fr og lf st la fm fc gr wi mn qx qy ss cl cp nx ny : Nat → Int32}
theorem st_dot {t h n a c s pc : Nat} {PX : Int32 → SX → Prop} (hR : ZR t h n a c mA mB oX oY gY wD pC tk tv cb sk sv vk vv bp br bh bn bs bl px py pm cr sn sx sy sm sp hw fr og lf st la fm fc gr wi mn qx qy ss cl cp) (ha : a < t) (hk : tk a = 1) (hv : tv a = nI 43) (hpc : pC = nI pc) (hp48 : pc ≤ 48) (hE : ZE1 43 h sk pc = 0)
    (H : ∀ (e : Int32) (u' : SX) (v' : SY), ZStep a (s + 1) e u' v' → (∀ PY : SY → Prop, PY v' → wpY_execute PY (nI t, 0, nI h, nI n, nI a, 0, -1, nI (s + 1), nI c, nw, gn, bg, wd, tk, tv, dg, sk, sv, vk, vv, hw, fr, og, lf, st, la, fm, fc, gr, wi, mn, qx, qy, ss, cl, cp, nx, ny)) → PX e u') : wpX_execute PX (nI t, 0, nI a, nI s, -1, nI h, nI n, mA, mB, oX, oY, gY, wD, pC, nI c, tk, tv, cb, sk, sv, vk, vv, bp, br, bh, bn, bs, bl, px, py, pm, cr, sn, sx, sy, sm, sp, dg) (nI a) := by
  have hR' := hR
  obtain ⟨hT, hS, hV, hF, hPO, hG, hSV⟩ := hR
  have ht := hT.1
  have hh := hS.1
  have hmn := zg_mn hG hpc
  have hi : vp_in (nI a) 100 := vp_in_nI (by omega) (by omega)
  have e : (nI a).toNatClampNeg = a := zc_i (by omega)
  have ek : tk (nI a).toNatClampNeg = 1 := by rw [e]; exact hk
  have ev : tv (nI a).toNatClampNeg = nI 43 := by rw [e]; exact hv
  have hpn := po_next hPO ha (by rw [hk]; decide) (by rw [hk]; decide)
  obtain ⟨z1, z2, z3, z4⟩ := ze_0 hE
  have z1 : 2 ≤ h := z1
  have z4 : h - 2 + 1 ≤ 24 := z4
  refine nm_r (nI_1 s) (nm_r (nI_1 a) ⟨hi, br_t ek ⟨hi, nm_r ev (x_oe0 (by decide) hh hp48 rfl hpc hE (br_t rfl (br_t (by decide) (br_f (by decide) (br_f (by decide) (br_t rfl (?_)))))))⟩⟩)
  unfold wX_execute_82 wpX_rearrange
  refine br_f (by decide) (br_f (by decide) (br_f (by decide) (br_f (by decide) (br_f (by decide) (br_f (by decide) (br_f (by decide) (?_)))))))
  unfold wpX_putGray
  refine x_operand (j := 1) rfl rfl hh (by omega) (x_operand (j := 0) rfl rfl hh (by omega) (x_grayAt (nm_r (pk_sub (b := 2) z1) (x_put rfl (by omega) (H 0 _ (nI t, 0, nI (h - 2 + 1), nI n, nI a + 1, 0, -1, nI (s + 1), nI c, 0, 0, 0, 0, tk, tv, dg, upd sk (h - 2) 0, upd sv (h - 2) (zdt dg (sv (h - 1 - 1)) (sv (h - 1 - 0))), vk, vv, hw, fr, og, lf, st, la, fm, fc, gr, wi, mn, qx, qy, ss, cl, cp, nx, ny) (zs_ok ⟨hT, zst_put (zst_le hS (by omega)) (by omega) zv_0, hV, hF, hpn, hG, hSV⟩ rfl (nI_1 a) rfl rfl rfl rfl rfl rfl) (fun PY hp => ?_))))))
  refine ⟨hi, nm_r ev ⟨hi, nm_r ek (br_f (by decide) (br_f (by decide) (br_f (by decide) (br_t rfl ?_))))⟩⟩
  unfold wY_execute_245 wpY_operate
  refine y_check (by decide) hh hp48 (zst_k hS) rfl hmn (fun z => absurd hE z) (fun _ z => absurd z (by decide)) (fun _ _ _ => y_ck87 rfl hh z1 hmn hp48 (by decide) (by decide) (by decide) (by decide) (by decide) (by decide) (by decide) (by decide) (by decide) (by decide) (by decide) (y_ck335n (by decide) (by decide) (by decide) (by decide) (by decide) (by decide) (br_t rfl ?_)))
  refine br_t (by decide) (br_t (by decide) (br_t (by decide) (br_f (by decide) (br_f (by decide) (?_)))))
  refine br_t rfl (y_top (j := 1) rfl rfl hh (by omega) (y_top (j := 0) rfl rfl hh (by omega) (y_dot (nm_r (pk_sub (b := 2) z1) (y_put rfl (by omega) (br_t (by decide) (br_t (by decide) ⟨1, br_f (by decide) (br_f (by decide) (y_p165 (by decide) hp))⟩)))))))
theorem zg_pt {a b ox oy g w m F G W M : Int32} {f : Nat → Int32} {pc : Nat} (hG : ZGS a b ox oy g w m px py pm cr f F G W M qx qy ss cl cp) (e : m = nI pc) (hp : pc ≤ 48) : ZPT pc px py pm qx qy ss cl := by
  obtain ⟨_, _, _, _, ⟨q, hq, hP⟩, _⟩ := hG
  have := (nI_eq (a := q) (b := pc) (by have := hP.1; omega) (by omega)).mp (hq.symm.trans e)
  rw [this] at hP
  exact hP
theorem zmk_1 {s c : Int32} : (Zmk s c &&& 1) = 0 ↔ s = 0 := by
  unfold Zmk
  by_cases hs : s = 0 <;> by_cases hc : c = 0 <;> simp only [hs, hc, if_true, if_false] <;> decide
theorem zmk_2 {s c : Int32} : (Zmk s c &&& 2) = 0 ↔ c = 0 := by
  unfold Zmk
  by_cases hs : s = 0 <;> by_cases hc : c = 0 <;> simp only [hs, hc, if_true, if_false] <;> decide
theorem zmk_e {s c : Int32} : Zmk s c = 1 ↔ s ≠ 0 ∧ c = 0 := by
  unfold Zmk
  by_cases hs : s = 0 <;> by_cases hc : c = 0 <;> simp only [hs, hc, if_true, if_false, ne_eq, not_false_eq_true, not_true_eq_false] <;> decide
theorem zmk_or {s c : Int32} : Zmk s c ||| 2 = Zmk s 1 := by
  unfold Zmk
  by_cases hs : s = 0 <;> by_cases hc : c = 0 <;> simp only [hs, hc, if_true, if_false] <;> decide
theorem x_lastSub_l {post : Int32 → Prop} {pc : Nat} (hP : ZPT pc px py pm qx qy ss cl) : ∀ k, k < pc → post (nI (Zft ss k)) → wX_lastSubpath_7 post tc ob ps su ep sd bc mA mB oX oY gY wD pC sC tk tv cb sk sv vk vv bp br bh bn bs bl px py pm cr sn sx sy sm sp dg (k + 1) (nI k) := by
  intro k
  have h48 := hP.1
  induction k with
  | zero => intro _ kk; exact ql_t 0 0 (by omega) kk
  | succ k ih =>
    intro hk kk
    obtain ⟨_, _, _, _, hm, _⟩ := hP.2.2 (k + 1) hk
    refine ql_f (k + 1) 0 (by omega) ⟨vp_in_nI (by omega) (by omega), ?_⟩
    rw [zc_i (n := k + 1) (by omega), hm]
    refine br_c (fun q => ?_) (fun q => ?_)
    · rw [zft_0 (zmk_1.mp q)] at kk
      exact nm_r (pk_m1 k) (ih (by omega) kk)
    · rw [zft_s (fun z => q (zmk_1.mpr z))] at kk
      exact kk
theorem x_lastSub {post : Int32 → Prop} {pc : Nat} (hP : ZPT (pc + 1) px py pm qx qy ss cl) (hc : pC = nI (pc + 1)) (k : post (nI (Zft ss pc))) : wpX_lastSubpath post (tc, ob, ps, su, ep, sd, bc, mA, mB, oX, oY, gY, wD, pC, sC, tk, tv, cb, sk, sv, vk, vv, bp, br, bh, bn, bs, bl, px, py, pm, cr, sn, sx, sy, sm, sp, dg) := by
  subst hc
  exact nm_r (nI_pred pc) ⟨pc + 1, x_lastSub_l hP pc (by omega) k⟩
theorem y_fol_l {post : Int32 → Prop} (h0 : ss 0 ≠ 0) : ∀ k, k < 240 → post (nI (Zft ss k)) → wY_firstOfLast_9 post yt yo yh yi ya ye yp ys yc nw gn bg wd tk tv dg sk sv vk vv hw fr og lf st la fm fc gr wi mn qx qy ss cl cp nx ny (k + 1) (nI k) := by
  intro k
  induction k with
  | zero =>
    intro _ kk
    refine ⟨vp_in_nI (by omega) (by omega), ?_⟩
    rw [zc_i (by omega)]
    exact br_f h0 kk
  | succ k ih =>
    intro hk kk
    refine ⟨vp_in_nI (by omega) (by omega), ?_⟩
    rw [zc_i (n := k + 1) (by omega)]
    refine br_c (fun q => ?_) (fun q => ?_)
    · rw [zft_0 q] at kk
      exact nm_r (pk_m1 k) (ih (by omega) kk)
    · rw [zft_s q] at kk
      exact kk
theorem y_fol {post : Int32 → Prop} {pc : Nat} (h0 : ss 0 ≠ 0) (hm : mn 0 = nI (pc + 1)) (hp : pc < 240) (k : post (nI (Zft ss pc))) : wpY_firstOfLast post (yt, yo, yh, yi, ya, ye, yp, ys, yc, nw, gn, bg, wd, tk, tv, dg, sk, sv, vk, vv, hw, fr, og, lf, st, la, fm, fc, gr, wi, mn, qx, qy, ss, cl, cp, nx, ny) := by
  show ∀ x1 : Int32, x1 = mn 0 - 1 → ∃ q, wY_firstOfLast_9 post yt yo yh yi ya ye yp ys yc nw gn bg wd tk tv dg sk sv vk vv hw fr og lf st la fm fc gr wi mn qx qy ss cl cp nx ny q x1
  rw [hm]
  exact nm_r (nI_pred pc) ⟨pc + 1, y_fol_l h0 pc hp k⟩
theorem x_lastClosed {post : Int32 → Prop} {pc : Nat} (hP : ZPT (pc + 1) px py pm qx qy ss cl) (hc : pC = nI (pc + 1)) (k : post (if cl (Zft ss pc) = 0 then 0 else 1)) : wpX_isLastClosed post (tc, ob, ps, su, ep, sd, bc, mA, mB, oX, oY, gY, wD, pC, sC, tk, tv, cb, sk, sv, vk, vv, bp, br, bh, bn, bs, bl, px, py, pm, cr, sn, sx, sy, sm, sp, dg) := by
  subst hc
  have h48 := hP.1
  have e1 : nI (pc + 1) - 1 = nI pc := nI_pred pc
  obtain ⟨_, _, _, _, hm, _⟩ := hP.2.2 pc (by omega)
  refine ql_f (pc + 1) 0 (by omega) ⟨by rw [e1]; exact vp_in_nI (by omega) (by omega), ?_⟩
  rw [e1, zc_i (by omega), hm]
  refine br_c (fun q => ?_) (fun q => ?_)
  · rw [if_pos (zmk_2.mp q)] at k; exact k
  · rw [if_neg (fun z => q (zmk_2.mpr z))] at k; exact k
/-- the current point -/
def Zcu (ss cl : Nat → Int32) (pc : Nat) : Nat := if cl (Zft ss pc) = 0 then pc else Zft ss pc
theorem zcu_le {pc : Nat} : Zcu ss cl pc ≤ pc := by
  unfold Zcu
  split
  · omega
  · exact zft_le ss pc
theorem x_curPt {post : Int32 → Prop} {pc : Nat} (hP : ZPT (pc + 1) px py pm qx qy ss cl) (hc : pC = nI (pc + 1)) (k : post (nI (Zcu ss cl pc))) : wpX_currentPoint post (tc, ob, ps, su, ep, sd, bc, mA, mB, oX, oY, gY, wD, pC, sC, tk, tv, cb, sk, sv, vk, vv, bp, br, bh, bn, bs, bl, px, py, pm, cr, sn, sx, sy, sm, sp, dg) := by
  have h48 := hP.1
  refine br_f (by rw [hc]; exact nI_ne0 (by omega) (by omega)) (x_lastClosed hP hc ?_)
  unfold Zcu at k
  by_cases q : cl (Zft ss pc) = 0
  · rw [if_pos q] at k ⊢
    refine br_t rfl ?_
    rw [hc, nI_pred]
    exact k
  · rw [if_neg q] at k ⊢
    refine br_f (by decide) ?_
    unfold wX_currentPoint_14
    exact x_lastSub hP hc k
theorem zft_mid {r j : Nat} (h : Zft ss j = r) : ∀ k, r ≤ k → k ≤ j → Zft ss k = r := by
  intro k h1 h2
  induction j with
  | zero => rw [show k = 0 by omega]; exact h
  | succ j ih =>
    by_cases e : k = j + 1
    · rw [e]; exact h
    · by_cases q : ss (j + 1) = 0
      · rw [zft_0 q] at h; exact ih h (by omega)
      · rw [zft_s q] at h; omega
theorem x_close_l {post : SX → Prop} {pc : Nat} (h48 : pc ≤ 48) : ∀ (d k : Nat), k + d = pc → ∀ pm' : Nat → Int32, (∀ i, k ≤ i → pm' i = pm i) → post (tc, ob, ps, su, ep, sd, bc, mA, mB, oX, oY, gY, wD, nI pc, sC, tk, tv, cb, sk, sv, vk, vv, bp, br, bh, bn, bs, bl, px, py, zf pm' k pc (fun i => pm i ||| 2), cr, sn, sx, sy, sm, sp, dg) → wX_closePath_5 post tc ob ps su ep sd bc mA mB oX oY gY wD (nI pc) sC (d + 1) (nI k) tk tv cb sk sv vk vv bp br bh bn bs bl px py pm' cr sn sx sy sm sp dg := by
  intro d
  induction d with
  | zero =>
    intro k hk pm' he kk
    have : k = pc := by omega
    subst this
    rw [zf_z] at kk
    exact ql_t k k (by omega) kk
  | succ d ih =>
    intro k hk pm' he kk
    have e : (nI k).toNatClampNeg = k := zc_i (by omega)
    refine ql_f pc k (by omega) ⟨vp_in_nI (by omega) (by omega), vp_in_nI (by omega) (by omega), nm_r (show _ = upd pm' k (pm k ||| 2) by rw [e, he k (by omega)]) (nm_r (nI_1 k) (ih (k + 1) (by omega) _ (fun i hi => by rw [pk_un (by omega)]; exact he i (by omega)) ?_))⟩
    rw [zf_s (a := pm') (g := fun i => pm i ||| 2) (by omega)]
    exact kk
theorem zpt_close {pc : Nat} (hP : ZPT (pc + 1) px py pm qx qy ss cl) : ZPT (pc + 1) px py (zf pm (Zft ss pc) (pc + 1) (fun i => pm i ||| 2)) qx qy ss (upd cl (Zft ss pc) 1) := by
  obtain ⟨h1, h2, h3⟩ := hP
  refine ⟨h1, h2, fun k hk => ?_⟩
  obtain ⟨a1, a2, a3, a4, a5, a6, a7⟩ := h3 k hk
  have hl := zft_le ss k
  refine ⟨a1, a2, a3, ?_, ?_, a6, a7⟩
  · by_cases e : k = Zft ss pc
    · rw [← e, pk_us]; exact Or.inr rfl
    · rw [pk_un e]; exact a4
  · by_cases e : Zft ss pc ≤ k
    · rw [zf_in e hk, zft_mid rfl k e (by omega), pk_us, a5, zmk_or]
    · rw [zf_lo (by omega), pk_un (by omega)]; exact a5
/-- the reference's path with nothing planned -/
theorem zu_0 {pc : Nat} (hm : mn 0 = nI pc) : upd mn 0 (mn 0 - 0) = mn := zu_self (by rw [Int32.sub_zero])
theorem st_close {t h n a c s pc : Nat} {PX : Int32 → SX → Prop} (hR : ZR t h n a c mA mB oX oY gY wD pC tk tv cb sk sv vk vv bp br bh bn bs bl px py pm cr sn sx sy sm sp hw fr og lf st la fm fc gr wi mn qx qy ss cl cp) (ha : a < t) (hk : tk a = 1) (hv : tv a = nI 34) (hpc : pC = nI pc) (hp48 : pc ≤ 48) (hE : ZE1 34 h sk pc = 0)
    (H : ∀ (e : Int32) (u' : SX) (v' : SY), ZStep a (s + 1) e u' v' → (∀ PY : SY → Prop, PY v' → wpY_execute PY (nI t, 0, nI h, nI n, nI a, 0, -1, nI (s + 1), nI c, nw, gn, bg, wd, tk, tv, dg, sk, sv, vk, vv, hw, fr, og, lf, st, la, fm, fc, gr, wi, mn, qx, qy, ss, cl, cp, nx, ny)) → PX e u') : wpX_execute PX (nI t, 0, nI a, nI s, -1, nI h, nI n, mA, mB, oX, oY, gY, wD, pC, nI c, tk, tv, cb, sk, sv, vk, vv, bp, br, bh, bn, bs, bl, px, py, pm, cr, sn, sx, sy, sm, sp, dg) (nI a) := by
  have hR' := hR
  obtain ⟨hT, hS, hV, hF, hPO, hG, hSV⟩ := hR
  have ht := hT.1
  have hh := hS.1
  have hmn := zg_mn hG hpc
  have hi : vp_in (nI a) 100 := vp_in_nI (by omega) (by omega)
  have e : (nI a).toNatClampNeg = a := zc_i (by omega)
  have ek : tk (nI a).toNatClampNeg = 1 := by rw [e]; exact hk
  have ev : tv (nI a).toNatClampNeg = nI 34 := by rw [e]; exact hv
  have hpn := po_next hPO ha (by rw [hk]; decide) (by rw [hk]; decide)
  obtain ⟨z1, z2, z3, z4⟩ := ze_0 hE
  have z1 : 0 ≤ h := z1
  have hpc0 : 0 < pc := z3 (by decide) (by decide)
  obtain ⟨pc, rfl⟩ : ∃ p, pc = p + 1 := ⟨pc - 1, by omega⟩
  have hP := zg_pt hG hpc hp48
  have h0 := hP.2.1 (by omega)
  refine nm_r (nI_1 s) (nm_r (nI_1 a) ⟨hi, br_t ek ⟨hi, nm_r ev (x_oe0 (by decide) hh hp48 rfl hpc hE (br_t rfl (br_t (by decide) (br_f (by decide) (br_f (by decide) (br_f (by decide) (br_t (by decide) (br_f (by decide) (br_f (by decide) (br_f (by decide) (br_t (by decide) (?_))))))))))))⟩⟩)
  unfold wX_execute_139 wpX_changePath
  refine x_opDXA (j := 0) rfl rfl hh (by omega) (fun _ => x_opDYA (j := 0) rfl rfl hh (by omega) (fun _ => br_f (by decide) (br_f (by decide) (br_f (by decide) (br_f (by decide) (br_f (by decide) (br_f (by decide) (br_f (by decide) (br_f (by decide) (br_f (by decide) (br_t rfl (?_))))))))))))
  unfold wpX_closePath
  refine x_lastSub hP hpc ⟨pc + 1 - Zft ss pc + 1, ?_⟩
  rw [hpc]
  have hl := zft_le ss pc
  have hz : vp_in (nI (Zft ss pc)) 240 := vp_in_nI (by omega) (by omega)
  have hzc : (nI (Zft ss pc)).toNatClampNeg = Zft ss pc := zc_i (by omega)
  have hG2 : ZGS mA mB oX oY gY wD (nI (pc + 1)) px py (zf pm (Zft ss pc) (pc + 1) (fun i => pm i ||| 2)) cr fm (fc 0) (gr 0) (wi 0) (mn 0) qx qy ss (upd cl (Zft ss pc) 1) cp := by
    rw [hmn]
    exact zgs_path hG (zpt_close hP)
  refine x_close_l hp48 (pc + 1 - Zft ss pc) (Zft ss pc) (by omega) pm (fun _ _ => rfl) (x_153 (n := 0) (by decide) rfl z1 rfl (H 0 _ (nI t, 0, nI h, nI n, nI a + 1, 0, -1, nI (s + 1), nI c, 0, 0, 0, 0, tk, tv, dg, sk, sv, vk, vv, hw, fr, og, lf, st, la, fm, fc, gr, wi, mn, qx, qy, ss, upd cl (Zft ss pc) 1, cp, nx, ny) (zs_ok ⟨hT, hS, hV, hF, hpn, hG2, zsv_up hSV zr_i zr_i zr_i zr_i zr_i zr_i zr_i zr_i (fun i hi => pk_un (by omega)) zr_i⟩ rfl (nI_1 a) rfl rfl rfl rfl rfl rfl) (fun PY hp => ?_)))
  refine ⟨hi, nm_r ev ⟨hi, nm_r ek (br_f (by decide) (br_f (by decide) (br_f (by decide) (br_t rfl ?_))))⟩⟩
  unfold wY_execute_245 wpY_operate
  refine y_check (by decide) hh hp48 (zst_k hS) rfl hmn (fun z => absurd hE z) (fun _ z => absurd z (by decide)) (fun _ _ _ => y_ck87 rfl hh z1 hmn hp48 (by decide) (by decide) (by decide) (by decide) (by decide) (by decide) (by decide) (by decide) (by decide) (by decide) (by decide) (y_ck335n (by decide) (by decide) (by decide) (by decide) (by decide) (by decide) (br_t rfl ?_)))
  refine br_t (by decide) (br_t (by decide) (br_t (by decide) (br_t (by decide) (?_))))
  unfold wY_operate_71
  refine br_f (by decide) (nm_r (zu_0 hmn) ⟨1, br_t (by decide) (y_takes (by decide) (nm_r (pk_sub (b := 0) z1) (br_t rfl ?_)))⟩)
  unfold wY_path_138
  exact y_fol h0 hmn (by omega) ⟨hz, nm_r (show _ = upd cl (Zft ss pc) 1 by rw [hzc]; rfl) (br_f (by decide) (nm_e hp))⟩
theorem zsg {a b ox oy F : Int32} {f : Nat → Int32} (hg : ZGR a b ox oy f F) : ∃ sa sb : Int32, (∀ post : Int32 → Prop, post sa → wpX_signOf post a) ∧ (∀ post : Int32 → Prop, post sb → wpX_signOf post b) ∧ F ≠ 0 ∧ f 0 / F = sa ∧ f 1 / F = -sb ∧ f 3 / F = sb ∧ f 4 / F = sa := by
  obtain ⟨g0, g1, g2, g3, g4, g5, g6, g7, n, h1, h2, rfl, hc⟩ := hg
  have k0 : ∀ post : Int32 → Prop, post 0 → wpX_signOf post 0 := fun post k => br_t rfl k
  have k1 : ∀ post : Int32 → Prop, post 1 → wpX_signOf post (nI n) := fun post k => br_f (nI_ne0 (by omega) (by omega)) (br_t (nI_pos' (by omega)) k)
  have kn : -nI n ≠ 0 := fun z => by
    have := congrArg Int32.toInt z
    rw [zneg_le h2, z32_0] at this
    omega
  have k2 : ∀ post : Int32 → Prop, post (-1) → wpX_signOf post (-nI n) := fun post k => br_f kn (br_f (by rw [zt_le, zneg_le h2, z32_0]; omega) k)
  have d1 : nI n / nI n = 1 := (by decide +kernel : ∀ n, n < 65 → 1 ≤ n → nI n / nI n = 1) n (by omega) h1
  have d0 : (0 : Int32) / nI n = 0 := (by decide +kernel : ∀ n, n < 65 → 1 ≤ n → (0 : Int32) / nI n = 0) n (by omega) h1
  have d2 : -nI n / nI n = -1 := (by decide +kernel : ∀ n, n < 65 → 1 ≤ n → -nI n / nI n = -1) n (by omega) h1
  have hne : nI n ≠ 0 := nI_ne0 (by omega) (by omega)
  rw [g0, g1, g3, g4]
  rcases hc with ⟨rfl, rfl⟩ | ⟨rfl, rfl⟩ | ⟨rfl, rfl⟩ | ⟨rfl, rfl⟩
  · exact ⟨1, 0, k1, k0, hne, d1, d0, d0, d1⟩
  · exact ⟨0, 1, k0, k1, hne, d0, d2, d1, d0⟩
  · exact ⟨-1, 0, k2, k0, hne, d2, d0, d0, d2⟩
  · exact ⟨0, -1, k0, k2, hne, d0, by rw [Int32.neg_neg]; exact d1, d2, d0⟩
def zfd (x f : Int32) : Int32 := if 0 ≤ x - x / f * f then x / f else x / f - 1
theorem x_divF {post : Int32 → Prop} {x F : Int32} {f : Nat → Int32} (hg : ZGR mA mB oX oY f F) (hF : F ≠ 0) (k : post (zfd x F)) : wpX_dividedByFactor post (tc, ob, ps, su, ep, sd, bc, mA, mB, oX, oY, gY, wD, pC, sC, tk, tv, cb, sk, sv, vk, vv, bp, br, bh, bn, bs, bl, px, py, pm, cr, sn, sx, sy, sm, sp, dg) x := by
  unfold wpX_dividedByFactor
  exact x_factor hg (br_f hF ⟨hF, nm_e ⟨hF, (zh post _ _ _).mpr k⟩⟩)
theorem y_floored {post : Int32 → Prop} {x F : Int32} (hF : F ≠ 0) (k : post (zfd x F)) : wpY_floored post x F := by
  unfold zfd at k
  refine ⟨hF, br_c (fun q => ⟨hF, ?_⟩) (fun q => ⟨hF, ?_⟩)⟩
  · rw [if_pos q] at k; exact k
  · rw [if_neg q] at k; exact k
theorem st_point {t h n a c s pc : Nat} {PX : Int32 → SX → Prop} (hR : ZR t h n a c mA mB oX oY gY wD pC tk tv cb sk sv vk vv bp br bh bn bs bl px py pm cr sn sx sy sm sp hw fr og lf st la fm fc gr wi mn qx qy ss cl cp) (ha : a < t) (hk : tk a = 1) (hv : tv a = nI 35) (hpc : pC = nI pc) (hp48 : pc ≤ 48) (hE : ZE1 35 h sk pc = 0)
    (H : ∀ (e : Int32) (u' : SX) (v' : SY), ZStep a (s + 1) e u' v' → (∀ PY : SY → Prop, PY v' → wpY_execute PY (nI t, 0, nI h, nI n, nI a, 0, -1, nI (s + 1), nI c, nw, gn, bg, wd, tk, tv, dg, sk, sv, vk, vv, hw, fr, og, lf, st, la, fm, fc, gr, wi, mn, qx, qy, ss, cl, cp, nx, ny)) → PX e u') : wpX_execute PX (nI t, 0, nI a, nI s, -1, nI h, nI n, mA, mB, oX, oY, gY, wD, pC, nI c, tk, tv, cb, sk, sv, vk, vv, bp, br, bh, bn, bs, bl, px, py, pm, cr, sn, sx, sy, sm, sp, dg) (nI a) := by
  have hR' := hR
  obtain ⟨hT, hS, hV, hF, hPO, hG, hSV⟩ := hR
  have ht := hT.1
  have hh := hS.1
  have hmn := zg_mn hG hpc
  have hi : vp_in (nI a) 100 := vp_in_nI (by omega) (by omega)
  have e : (nI a).toNatClampNeg = a := zc_i (by omega)
  have ek : tk (nI a).toNatClampNeg = 1 := by rw [e]; exact hk
  have ev : tv (nI a).toNatClampNeg = nI 35 := by rw [e]; exact hv
  have hpn := po_next hPO ha (by rw [hk]; decide) (by rw [hk]; decide)
  obtain ⟨z1, z2, z3, z4⟩ := ze_0 hE
  have z1 : 0 ≤ h := z1
  have hpc0 : 0 < pc := z3 (by decide) (by decide)
  have z4 : h - 0 + 2 ≤ 24 := z4
  obtain ⟨pc, rfl⟩ : ∃ p, pc = p + 1 := ⟨pc - 1, by omega⟩
  have hP := zg_pt hG hpc hp48
  have h0 := hP.2.1 (by omega)
  have hl := zft_le ss pc
  have hcu : Zcu ss cl pc ≤ pc := zcu_le
  obtain ⟨sa, sb, ksa, ksb, hF0, d0, d1, d3, d4⟩ := zsg hG.1
  refine nm_r (nI_1 s) (nm_r (nI_1 a) ⟨hi, br_t ek ⟨hi, nm_r ev (x_oe0 (by decide) hh hp48 rfl hpc hE (br_t rfl (br_t (by decide) (br_f (by decide) (br_t rfl (?_))))))⟩⟩)
  unfold wX_execute_82 wpX_rearrange
  refine br_f (by decide) (br_f (by decide) (br_f (by decide) (br_f (by decide) (br_f (by decide) (br_f (by decide) (br_t rfl (?_)))))))
  unfold wpX_putCurrentPoint
  have ec : (nI (Zcu ss cl pc)).toNatClampNeg = Zcu ss cl pc := zc_i (by omega)
  have ic : vp_in (nI (Zcu ss cl pc)) 48 := vp_in_nI (by omega) (by omega)
  have ic2 : vp_in (nI (Zcu ss cl pc)) 240 := vp_in_nI (by omega) (by omega)
  obtain ⟨p1, p2, _⟩ := hP.2.2 (Zcu ss cl pc) (by omega)
  refine x_curPt hP hpc ⟨ic, nm_r (show _ = px (Zcu ss cl pc) - oX by rw [ec]) ⟨ic, nm_r (show _ = py (Zcu ss cl pc) - oY by rw [ec]) (ksa _ (ksb _ (x_divF hG.1 hF0 (x_divF hG.1 hF0 (x_put rfl (by omega) (x_put rfl (by omega) ?_))))))⟩⟩
  refine H 0 _ (nI t, 0, nI (h + 1 + 1), nI n, nI a + 1, 0, -1, nI (s + 1), nI c, 0, 0, 0, 0, tk, tv, dg, upd (upd sk h 0) (h + 1) 0, upd (upd sv h (zfd (sa * (px (Zcu ss cl pc) - oX) + sb * (py (Zcu ss cl pc) - oY)) (fc 0))) (h + 1) (zfd (sa * (py (Zcu ss cl pc) - oY) - sb * (px (Zcu ss cl pc) - oX)) (fc 0)), vk, vv, hw, fr, og, lf, st, la, fm, fc, gr, wi, mn, qx, qy, ss, cl, cp, nx, ny) (zs_ok ⟨hT, zst_put (zst_put hS (by omega) zv_0) (by omega) zv_0, hV, hF, hpn, hG, hSV⟩ rfl (nI_1 a) rfl rfl rfl rfl rfl rfl) (fun PY hp => ?_)
  refine ⟨hi, nm_r ev ⟨hi, nm_r ek (br_f (by decide) (br_f (by decide) (br_f (by decide) (br_t rfl ?_))))⟩⟩
  unfold wY_execute_245 wpY_operate
  refine y_check (by decide) hh hp48 (zst_k hS) rfl hmn (fun z => absurd hE z) (fun _ z => absurd z (by decide)) (fun _ _ _ => y_ck87 rfl hh z1 hmn hp48 (by decide) (by decide) (by decide) (by decide) (by decide) (by decide) (by decide) (by decide) (by decide) (by decide) (by decide) (y_ck335n (by decide) (by decide) (by decide) (by decide) (by decide) (by decide) (br_t rfl ?_)))
  refine br_t (by decide) (br_t (by decide) (br_t (by decide) (br_t (by decide) (?_))))
  unfold wY_operate_71
  refine br_f (by decide) (nm_r (zu_0 hmn) ⟨1, br_t (by decide) (y_takes (by decide) (nm_r (pk_sub (b := 0) z1) (br_f (by decide) (br_f (by decide) (br_t rfl ?_)))))⟩)
  unfold wpY_undo
  have go : wY_undo_26 (fun u => match u with | (yt₁, yo₁, yh₁, yi₁, ya₁, ye₁, yp₁, ys₁, yc₁, nw₁, gn₁, bg₁, wd₁, tk₁, tv₁, dg₁, sk₁, sv₁, vk₁, vv₁, hw₁, fr₁, og₁, lf₁, st₁, la₁, fm₁, fc₁, gr₁, wi₁, mn₁, qx₁, qy₁, ss₁, cl₁, cp₁, nx₁, ny₁) => ∀ w : Int32, w = ya₁ + 1 → PY (yt₁, yo₁, yh₁, yi₁, w, ye₁, yp₁, ys₁, yc₁, nw₁, gn₁, bg₁, wd₁, tk₁, tv₁, dg₁, sk₁, sv₁, vk₁, vv₁, hw₁, fr₁, og₁, lf₁, st₁, la₁, fm₁, fc₁, gr₁, wi₁, mn₁, qx₁, qy₁, ss₁, cl₁, cp₁, nx₁, ny₁)) (nI (Zcu ss cl pc)) (nI t) 0 (nI h) (nI n) (nI a) 0 (-1) (nI (s + 1)) (nI c) 0 0 0 0 tk tv dg sk sv vk vv hw fr og lf st la fm fc gr wi mn qx qy ss cl cp nx ny := by
    refine nm_e ⟨ic2, nm_r (show _ = px (Zcu ss cl pc) - oX by rw [ec, p1, hG.1.2.2.1]) ⟨ic2, nm_r (show _ = py (Zcu ss cl pc) - oY by rw [ec, p2, hG.1.2.2.2.2.2.1]) ⟨hF0, hF0, nm_r (show _ = sa * (px (Zcu ss cl pc) - oX) + sb * (py (Zcu ss cl pc) - oY) by rw [d0, d3]) ⟨hF0, hF0, nm_r (show _ = sa * (py (Zcu ss cl pc) - oY) - sb * (px (Zcu ss cl pc) - oX) by rw [d1, d4]; grind) (y_floored hF0 (y_floored hF0 (y_put rfl (by omega) (y_put rfl (by omega) (nm_e hp)))))⟩⟩⟩⟩
  refine y_fol h0 hmn (by omega) ⟨vp_in_nI (by omega) (by omega), ?_⟩
  rw [zc_i (n := Zft ss pc) (by omega)]
  unfold Zcu at go
  refine br_c (fun q => ?_) (fun q => ?_)
  · rw [if_pos q] at go
    rw [hmn, nI_pred]
    exact go
  · rw [if_neg q] at go
    exact go
end
end
section
section
variable {tc ob ps su ep sd bc mA mB oX oY gY wD pC sC yt yo yh yi ya ye yp ys yc nw gn bg wd : Int32} {tk tv cb sk sv vk vv bp br bh bn bs bl px py pm cr sn sx sy sm sp dg hw fr og lf st la fm fc gr wi mn qx qy ss cl cp nx ny : Nat → Int32}
theorem z64_sub {p q : Int32} (hp : Zsm p) (hq : Zsm q) : (p - q).toInt64 = p.toInt64 - q.toInt64 := by
  obtain ⟨p1, p2⟩ := hp
  obtain ⟨q1, q2⟩ := hq
  apply Int64.toInt_inj.mp
  rw [z64_i, Int64.toInt_sub, z64_i, z64_i, Int32.toInt_sub]
  rw [Int.bmod_eq_of_le (by omega) (by omega), Int.bmod_eq_of_le (by omega) (by omega)]
theorem zu_u {f : Nat → Int32} {k : Nat} {x y : Int32} : upd (upd f k x) k y = upd f k y := by
  funext i
  unfold upd
  by_cases e : i = k
  · rw [if_pos e, if_pos e]
  · rw [if_neg e, if_neg e, if_neg e]
theorem x_append {post : SX → Prop} {x y : Int64} {mk : Int32} {q : Nat} (hc : pC = nI q) (hq : q < 48) (k : post (tc, ob, ps, su, ep, sd, bc, mA, mB, oX, oY, gY, wD, nI (q + 1), sC, tk, tv, cb, sk, sv, vk, vv, bp, br, bh, bn, bs, bl, upd px q x.toInt32, upd py q y.toInt32, upd pm q mk, cr, sn, sx, sy, sm, sp, dg)) : wpX_append post (tc, ob, ps, su, ep, sd, bc, mA, mB, oX, oY, gY, wD, pC, sC, tk, tv, cb, sk, sv, vk, vv, bp, br, bh, bn, bs, bl, px, py, pm, cr, sn, sx, sy, sm, sp, dg) x y mk := by
  subst hc
  have e : (nI q).toNatClampNeg = q := zc_i (by omega)
  have hi : vp_in (nI q) 48 := vp_in_nI hq (by omega)
  exact qs_t q 48 hq ⟨hi, nm_r (congrArg (fun z => upd px z x.toInt32) e) ⟨hi, nm_r (congrArg (fun z => upd py z y.toInt32) e) ⟨hi, nm_r (congrArg (fun z => upd pm z mk) e) (nm_r (nI_1 q) k)⟩⟩⟩
theorem y_329n {post : SY → Prop} {op x3 : Int32} {h q : Nat} {Fk : Int32} (h33 : op ≠ 33) (hg : ZGR mA mB oX oY fm Fk) (hs : yh = nI h) (hh : h ≤ 24) (h2 : 2 ≤ h) (hq : nw = nI q) (h9 : q < 9) (hwd : wd = 0 ∨ wd = 1) (k : post (yt, yo, yh, yi, ya, ye, yp, ys, yc, nI (q + 1), gn, bg, wd ||| zof (ZDX mA mB oX (sv (h - 1 - 1)).toInt64 (sv (h - 1 - 0)).toInt64) (ZDX mA mB oY (sv (h - 1 - 0)).toInt64 (-(sv (h - 1 - 1)).toInt64)), tk, tv, dg, sk, sv, vk, vv, hw, fr, og, lf, st, la, fm, fc, gr, wi, mn, qx, qy, ss, cl, cp, upd nx q (ZDX mA mB oX (sv (h - 1 - 1)).toInt64 (sv (h - 1 - 0)).toInt64).toInt32, upd ny q (ZDX mA mB oY (sv (h - 1 - 0)).toInt64 (-(sv (h - 1 - 1)).toInt64)).toInt32)) : wY_planAll_329 post op x3 0 yt yo yh yi ya ye yp ys yc nw gn bg wd tk tv dg sk sv vk vv hw fr og lf st la fm fc gr wi mn qx qy ss cl cp nx ny :=
  br_f h33 (y_top (j := 1) hs rfl hh (by omega) (y_top (j := 0) hs rfl hh (by omega) (y_deviceX hg (y_top (j := 1) hs rfl hh (by omega) (y_top (j := 0) hs rfl hh (by omega) (y_deviceY hg (br_t rfl (y_plan hq h9 hwd k))))))))
theorem y_329b {post : SY → Prop} {op x3 : Int32} {h q j : Nat} {Fk : Int32} (h33 : op ≠ 33) (hg : ZGR mA mB oX oY fm Fk) (hs : yh = nI h) (hh : h ≤ 24) (h2 : 2 ≤ h) (hq : nw = nI q) (h9 : q < 9) (hwd : wd = 0 ∨ wd = 1) (hx : x3 = nI j) (hj : j < 240) (ex : qx j = px j) (ey : qy j = py j) (sxj : Zsm (px j)) (syj : Zsm (py j))
    (k : post (yt, yo, yh, yi, ya, ye, yp, ys, yc, nI (q + 1), gn, bg, wd ||| zof (ZDX mA mB oX (sv (h - 1 - 1)).toInt64 (sv (h - 1 - 0)).toInt64 + (px j - oX).toInt64) (ZDX mA mB oY (sv (h - 1 - 0)).toInt64 (-(sv (h - 1 - 1)).toInt64) + (py j - oY).toInt64), tk, tv, dg, sk, sv, vk, vv, hw, fr, og, lf, st, la, fm, fc, gr, wi, mn, qx, qy, ss, cl, cp, upd nx q (ZDX mA mB oX (sv (h - 1 - 1)).toInt64 (sv (h - 1 - 0)).toInt64 + (px j - oX).toInt64).toInt32, upd ny q (ZDX mA mB oY (sv (h - 1 - 0)).toInt64 (-(sv (h - 1 - 1)).toInt64) + (py j - oY).toInt64).toInt32)) : wY_planAll_329 post op x3 1 yt yo yh yi ya ye yp ys yc nw gn bg wd tk tv dg sk sv vk vv hw fr og lf st la fm fc gr wi mn qx qy ss cl cp nx ny := by
  have hi : vp_in (nI j) 240 := vp_in_nI hj (by omega)
  subst hx
  refine br_f h33 (y_top (j := 1) hs rfl hh (by omega) (y_top (j := 0) hs rfl hh (by omega) (y_deviceX hg (y_top (j := 1) hs rfl hh (by omega) (y_top (j := 0) hs rfl hh (by omega) (y_deviceY hg (br_f (by decide) ⟨hi, hi, ?_⟩)))))))
  rw [zc_i (by omega), ex, ey, hg.2.2.1, hg.2.2.2.2.2.1]
  have e1 : (ZDX mA mB oX (sv (h - 1 - 1)).toInt64 (sv (h - 1 - 0)).toInt64 + (px j).toInt64) - oX.toInt64 = ZDX mA mB oX (sv (h - 1 - 1)).toInt64 (sv (h - 1 - 0)).toInt64 + (px j - oX).toInt64 := by
    rw [z64_sub sxj hg.2.2.2.2.2.2.1]; grind
  have e2 : (ZDX mA mB oY (sv (h - 1 - 0)).toInt64 (-(sv (h - 1 - 1)).toInt64) + (py j).toInt64) - oY.toInt64 = ZDX mA mB oY (sv (h - 1 - 0)).toInt64 (-(sv (h - 1 - 1)).toInt64) + (py j - oY).toInt64 := by
    rw [z64_sub syj hg.2.2.2.2.2.2.2.1]; grind
  rw [e1, e2]
  exact y_plan hq h9 hwd k
theorem y_pl134 {post : SY → Prop} {op : Int32} {p : Nat} (h29 : ¬ op < 29) (h33 : op ≤ 33) (h0 : ss 0 ≠ 0) (hm : mn 0 = nI (p + 1)) (hp : p < 48) (k : wY_planAll_195 post op (nI (Zft ss p)) (nI (Zcu ss cl p)) yt yo yh yi ya ye yp ys yc nw gn bg wd tk tv dg sk sv vk vv hw fr og lf st la fm fc gr wi mn qx qy ss cl cp nx ny) : wY_planAll_134 post op yt yo yh yi ya ye yp ys yc nw gn bg wd tk tv dg sk sv vk vv hw fr og lf st la fm fc gr wi mn qx qy ss cl cp nx ny := by
  have hl := zft_le ss p
  refine br_f h29 (br_t h33 (br_f (by rw [hm]; exact nI_ge (a := 0) (by omega) (by omega)) (y_fol h0 hm (by omega) (br_f (by rw [hm]; exact nI_ne0 (by omega) (by omega)) ⟨vp_in_nI (by omega) (by omega), ?_⟩))))
  rw [zc_i (by omega)]
  unfold Zcu at k
  refine br_c (fun q => ?_) (fun q => ?_)
  · rw [if_pos q] at k
    rw [hm, nI_pred]
    exact k
  · rw [if_neg q] at k
    exact k
theorem y_ckP {post : Int32 → SY → Prop} {op : Int32} {h pc g q n : Nat} (hs : yh = nI h) (hh : h ≤ 24) (hn : n ≤ h) (hm : mn 0 = nI pc) (hp : pc ≤ 48) (hgn : gn = nI g) (hg : g ≤ pc) (hnw : nw = nI q) (hq : q ≤ 9) (h23 : op ≠ 23) (h21 : op ≠ 21) (h24 : op ≠ 24) (h26 : op ≠ 26) (h27 : op ≠ 27) (h11 : op ≠ 11) (h18 : op ≠ 18) (h20 : op ≠ 20)
    (h14 : op ≠ 14) (h16 : op ≠ 16) (h19 : op ≠ 19) (h15 : op ≠ 15) (h17 : op ≠ 17)
    (k7 : 48 < pc - g + q → post 7 (yt, yo, yh, yi, ya, ye, yp, ys, yc, nw, gn, bg, wd, tk, tv, dg, sk, sv, vk, vv, hw, fr, og, lf, st, la, fm, fc, gr, wi, mn, qx, qy, ss, cl, cp, nx, ny)) (k5 : pc - g + q ≤ 48 → wd ≠ 0 → post 5 (yt, yo, yh, yi, ya, ye, yp, ys, yc, nw, gn, bg, wd, tk, tv, dg, sk, sv, vk, vv, hw, fr, og, lf, st, la, fm, fc, gr, wi, mn, qx, qy, ss, cl, cp, nx, ny)) (k0 : pc - g + q ≤ 48 → wd = 0 → post 0 (yt, yo, yh, yi, ya, ye, yp, ys, yc, nw, gn, bg, wd, tk, tv, dg, sk, sv, vk, vv, hw, fr, og, lf, st, la, fm, fc, gr, wi, mn, qx, qy, ss, cl, cp, nx, ny)) : wY_check_129 post op (nI n) yt yo yh yi ya ye yp ys yc nw gn bg wd tk tv dg sk sv vk vv hw fr og lf st la fm fc gr wi mn qx qy ss cl cp nx ny := by
  refine br_f h23 ?_
  rw [hm, hgn, hnw, pk_sub hg, nI_add]
  subst hgn hnw
  refine pk_lt 48 (pc - g + q) (fun q1 => k7 q1) (fun q1 => br_f h21 ?_)
  have go : ∀ x, wY_check_192 post op x yt yo yh yi ya ye yp ys yc (nI q) (nI g) bg wd tk tv dg sk sv vk vv hw fr og lf st la fm fc gr wi mn qx qy ss cl cp nx ny := fun x => br_f h24 (br_f h26 (br_f h27 (br_f h11 (br_f h18 (br_f h24 (br_c (fun e => br_f h20 (y_ck335n h14 h16 h19 h15 h17 h18 (k0 q1 e))) (fun e => k5 q1 e)))))))
  exact pk_le n 0 (fun _ => go 0) (fun h1 => y_top (j := 0) hs rfl hh (by omega) (go _))
theorem y_path_l {post : SY → Prop} {op m q n h : Nat} (hop : op < 45) (hn : ztk op = n) (hnh : n ≤ h) (hs : yh = nI h) (hq : q ≤ 9) (hmq : m + q ≤ 48) (hb : bg = 0 ∨ bg = 1) (h34 : op ≠ 34) (K44 : op = 44 → wY_path_138 post (nI op) yt yo (nI (h - n)) yi ya ye yp ys yc (nI q) gn bg wd tk tv dg sk sv vk vv hw fr og lf st la fm fc gr wi (upd mn 0 (nI (m + q))) (zf qx m (m + q) (fun i => nx (i - m))) (zf qy m (m + q) (fun i => ny (i - m))) (zf ss m (m + q) (fun i => if bg ≠ 0 ∧ i = m then 1 else 0)) (zf cl m (m + q) (fun _ => 0)) cp nx ny) (K : op ≠ 44 → wY_path_150 post (nI op) yt yo (nI (h - n)) yi ya ye yp ys yc (nI q) gn bg wd tk tv dg sk sv vk vv hw fr og lf st la fm fc gr wi (upd mn 0 (nI (m + q))) (zf qx m (m + q) (fun i => nx (i - m))) (zf qy m (m + q) (fun i => ny (i - m))) (zf ss m (m + q) (fun i => if bg ≠ 0 ∧ i = m then 1 else 0)) (zf cl m (m + q) (fun _ => 0)) cp nx ny) :
    ∀ d k, k + d = q → wY_path_29 post (nI op) yt yo yh yi ya ye yp ys yc (nI q) gn bg wd (d + 1) (nI k) tk tv dg sk sv vk vv hw fr og lf st la fm fc gr wi (upd mn 0 (nI (m + k))) (zf qx m (m + k) (fun i => nx (i - m))) (zf qy m (m + k) (fun i => ny (i - m))) (zf ss m (m + k) (fun i => if bg ≠ 0 ∧ i = m then 1 else 0)) (zf cl m (m + k) (fun _ => 0)) cp nx ny := by
  intro d
  subst hs
  induction d with
  | zero =>
    intro k hk
    have : k = q := by omega
    subst this
    refine ql_t k k (by omega) (y_takes hop ?_)
    rw [hn]
    exact nm_r (pk_sub hnh) (pk_eq op 34 (fun e => absurd e h34) (fun _ => pk_eq op 44 (fun e => K44 e) (fun e => K e)))
  | succ d ih =>
    intro k hk
    have i9 : vp_in (nI k) 9 := vp_in_nI (by omega) (by omega)
    have im : vp_in (nI (m + k)) 240 := vp_in_nI (by omega) (by omega)
    have ek : (nI k).toNatClampNeg = k := zc_i (by omega)
    have em : (nI (m + k)).toNatClampNeg = m + k := zc_i (by omega)
    have stp : ∀ f g : Nat → Int32, upd (zf f m (m + k) g) (m + k) (g (m + k)) = zf f m (m + (k + 1)) g := fun f g => by
      rw [show m + (k + 1) = m + k + 1 by omega]
      exact zf_e (by omega)
    have e5 : ∀ g : Nat → Int32, g (m + k - m) = g k := fun g => congrArg g (by omega)
    have go : ∀ z : Int32, z = (if bg ≠ 0 ∧ m + k = m then 1 else 0) → wY_path_89 post (wY_path_29 post (nI op) yt yo (nI h) yi ya ye yp ys yc (nI q) gn bg wd (d + 1)) (nI op) (nI k) (nI (m + k)) z (nI (m + k)) yt yo (nI h) yi ya ye yp ys yc (nI q) gn bg wd tk tv dg sk sv vk vv hw fr og lf st la fm fc gr wi (upd mn 0 (nI (m + k))) (zf qx m (m + (k + 1)) (fun i => nx (i - m))) (zf qy m (m + (k + 1)) (fun i => ny (i - m))) (zf ss m (m + k) (fun i => if bg ≠ 0 ∧ i = m then 1 else 0)) (zf cl m (m + k) (fun _ => 0)) cp nx ny := by
      intro z hz
      have hzn : vp_nar .boolean z = z := zb_b (by rw [hz]; split <;> simp)
      refine ⟨im, nm_r ?_ ⟨im, nm_r ?_ (nm_r ?_ (nm_r (nI_1 k) (ih (k + 1) (by omega))))⟩⟩
      · rw [em, hzn, hz]
        exact stp ss (fun i => if bg ≠ 0 ∧ i = m then 1 else 0)
      · rw [em, zb_0]
        exact stp cl (fun _ => 0)
      · rw [pk_us, zu_u, nI_1]
        rfl
    refine ql_f q k (by omega) (nm_r pk_us ⟨i9, im, nm_r (show _ = zf qx m (m + (k + 1)) (fun i => nx (i - m)) by rw [em, ek, ← stp, e5 nx]) ⟨i9, im, nm_r (show _ = zf qy m (m + (k + 1)) (fun i => ny (i - m)) by rw [em, ek, ← stp, e5 ny]) ?_⟩⟩)
    refine br_c (fun b0 => go 0 ?_) (fun b0 => pk_eq k 0 (fun k0 => go 1 ?_) (fun k0 => go 0 ?_))
    · rw [if_neg (fun z => z.1 b0)]
    · rw [if_pos ⟨b0, by omega⟩]
    · rw [if_neg (fun z => k0 (by omega))]
theorem y_path {post : SY → Prop} {op m q n h g pc : Nat} (hop : op < 45) (h28 : op ≠ 28) (hn : ztk op = n) (hnh : n ≤ h) (hs : yh = nI h) (hq : q ≤ 9) (hmq : m + q ≤ 48) (hb : bg = 0 ∨ bg = 1) (h34 : op ≠ 34) (hnw : nw = nI q) (hgn : gn = nI g) (hm : mn 0 = nI pc) (hgp : g ≤ pc) (hmm : m = pc - g) (hp : pc ≤ 48) (K44 : op = 44 → wY_path_138 post (nI op) yt yo (nI (h - n)) yi ya ye yp ys yc (nI q) gn bg wd tk tv dg sk sv vk vv hw fr og lf st la fm fc gr wi (upd mn 0 (nI (m + q))) (zf qx m (m + q) (fun i => nx (i - m))) (zf qy m (m + q) (fun i => ny (i - m))) (zf ss m (m + q) (fun i => if bg ≠ 0 ∧ i = m then 1 else 0)) (zf cl m (m + q) (fun _ => 0)) cp nx ny) (K : op ≠ 44 → wY_path_150 post (nI op) yt yo (nI (h - n)) yi ya ye yp ys yc (nI q) gn bg wd tk tv dg sk sv vk vv hw fr og lf st la fm fc gr wi (upd mn 0 (nI (m + q))) (zf qx m (m + q) (fun i => nx (i - m))) (zf qy m (m + q) (fun i => ny (i - m))) (zf ss m (m + q) (fun i => if bg ≠ 0 ∧ i = m then 1 else 0)) (zf cl m (m + q) (fun _ => 0)) cp nx ny) : wpY_path post (yt, yo, yh, yi, ya, ye, yp, ys, yc, nw, gn, bg, wd, tk, tv, dg, sk, sv, vk, vv, hw, fr, og, lf, st, la, fm, fc, gr, wi, mn, qx, qy, ss, cl, cp, nx, ny) (nI op) := by
  subst hnw
  have L := y_path_l (gn := gn) hop hn hnh hs hq hmq hb h34 K44 K q 0 (by omega)
  rw [Nat.add_zero m, zf_z, zf_z, zf_z, zf_z] at L
  refine qe_f op 28 h28 (nm_r (show _ = upd mn 0 (nI m) by rw [hm, hgn, pk_sub hgp, hmm]) ⟨q + 1, L⟩)
/-! the path grows -/
theorem zpt_cut {m pc : Nat} (hP : ZPT pc px py pm qx qy ss cl) (h : m ≤ pc) : ZPT m px py pm qx qy ss cl := ⟨by have := hP.1; omega, fun h0 => hP.2.1 (by omega), fun k hk => hP.2.2 k (by omega)⟩
variable {px' py' pm' qx' qy' ss' cl' : Nat → Int32}
theorem zft_beg {m : Nat} (h1 : ss m ≠ 0) : ∀ k, m ≤ k → (∀ j, m < j → j ≤ k → ss j = 0) → Zft ss k = m := by
  intro k
  induction k with
  | zero => intro h _; rw [show m = 0 by omega]; rfl
  | succ k ih =>
    intro h hz
    by_cases e : m = k + 1
    · rw [← e]; exact zft_s h1
    · rw [zft_0 (hz _ (by omega) (by omega))]
      exact ih (by omega) (fun j h2 h3 => hz j h2 (by omega))
theorem zft_non {m : Nat} : ∀ k, m ≤ k → (∀ j, m < j → j ≤ k → ss j = 0) → Zft ss k = Zft ss m := by
  intro k
  induction k with
  | zero => intro h _; rw [show m = 0 by omega]
  | succ k ih =>
    intro h hz
    by_cases e : m = k + 1
    · rw [e]
    · rw [zft_0 (hz _ (by omega) (by omega))]
      exact ih (by omega) (fun j h2 h3 => hz j h2 (by omega))
theorem zpt_ext {m q : Nat} (hP : ZPT m px py pm qx qy ss cl) (hmq : m + q ≤ 48) (h0 : 0 < m + q → ss' 0 ≠ 0)
    (el : ∀ k, k < m → px' k = px k ∧ py' k = py k ∧ pm' k = pm k ∧ qx' k = qx k ∧ qy' k = qy k ∧ ss' k = ss k ∧ cl' k = cl k)
    (en : ∀ k, m ≤ k → k < m + q → qx' k = px' k ∧ qy' k = py' k ∧ Zb2 (ss' k) ∧ cl' k = 0 ∧ pm' k = Zmk (ss' k) (cl' (Zft ss' k)) ∧ Zsm (px' k) ∧ Zsm (py' k)) : ZPT (m + q) px' py' pm' qx' qy' ss' cl' := by
  refine ⟨hmq, h0, fun k hk => ?_⟩
  by_cases e : k < m
  · obtain ⟨l1, l2, l3, l4, l5, l6, l7⟩ := el k e
    obtain ⟨a1, a2, a3, a4, a5, a6, a7⟩ := hP.2.2 k e
    have hl := zft_le ss k
    rw [l1, l2, l3, l4, l5, l6, l7, zft_c (fun j hj => (el j (by omega)).2.2.2.2.2.1), (el (Zft ss k) (by omega)).2.2.2.2.2.2]
    exact ⟨a1, a2, a3, a4, a5, a6, a7⟩
  · obtain ⟨a1, a2, a3, a4, a5, a6, a7⟩ := en k (by omega) hk
    exact ⟨a1, a2, a3, Or.inl a4, a5, a6, a7⟩
/-- new points that begin a subpath -/
theorem zpt_extB {m q : Nat} (hP : ZPT m px py pm qx qy ss cl) (hq : 1 ≤ q) (hmq : m + q ≤ 48)
    (el : ∀ k, k < m → px' k = px k ∧ py' k = py k ∧ pm' k = pm k ∧ qx' k = qx k ∧ qy' k = qy k ∧ ss' k = ss k ∧ cl' k = cl k)
    (en : ∀ k, m ≤ k → k < m + q → qx' k = px' k ∧ qy' k = py' k ∧ cl' k = 0 ∧ Zsm (px' k) ∧ Zsm (py' k))
    (es : ss' m = 1) (em : pm' m = 1) (ez : ∀ k, m < k → k < m + q → ss' k = 0 ∧ pm' k = 0) : ZPT (m + q) px' py' pm' qx' qy' ss' cl' := by
  have hs1 : ss' m ≠ 0 := by rw [es]; decide
  refine zpt_ext hP hmq (fun _ => ?_) el (fun k h1 h2 => ?_)
  · by_cases e : m = 0
    · rw [← e]; exact hs1
    · rw [(el 0 (by omega)).2.2.2.2.2.1]; exact hP.2.1 (by omega)
  · obtain ⟨a1, a2, a3, a4, a5⟩ := en k h1 h2
    have hf : Zft ss' k = m := zft_beg hs1 k h1 (fun j h3 h4 => (ez j h3 (by omega)).1)
    rw [hf, (en m (by omega) (by omega)).2.2.1]
    by_cases e : k = m
    · rw [e] at a1 a2 a3 a4 a5 ⊢
      exact ⟨a1, a2, Or.inr es, a3, by rw [em, es]; rfl, a4, a5⟩
    · obtain ⟨b1, b2⟩ := ez k (by omega) h2
      exact ⟨a1, a2, Or.inl b1, a3, by rw [b1, b2]; rfl, a4, a5⟩
/-- new points of the last subpath -/
theorem zpt_extN {p q : Nat} (hP : ZPT (p + 1) px py pm qx qy ss cl) (hc : cl (Zft ss p) = 0) (hmq : p + 1 + q ≤ 48)
    (el : ∀ k, k < p + 1 → px' k = px k ∧ py' k = py k ∧ pm' k = pm k ∧ qx' k = qx k ∧ qy' k = qy k ∧ ss' k = ss k ∧ cl' k = cl k)
    (en : ∀ k, p + 1 ≤ k → k < p + 1 + q → qx' k = px' k ∧ qy' k = py' k ∧ cl' k = 0 ∧ Zsm (px' k) ∧ Zsm (py' k))
    (ez : ∀ k, p + 1 ≤ k → k < p + 1 + q → ss' k = 0 ∧ pm' k = 0) : ZPT (p + 1 + q) px' py' pm' qx' qy' ss' cl' := by
  refine zpt_ext hP hmq (fun _ => ?_) el (fun k h1 h2 => ?_)
  · rw [(el 0 (by omega)).2.2.2.2.2.1]; exact hP.2.1 (by omega)
  · obtain ⟨a1, a2, a3, a4, a5⟩ := en k h1 h2
    obtain ⟨b1, b2⟩ := ez k h1 h2
    have hl := zft_le ss p
    have hf : Zft ss' k = Zft ss p := by
      rw [zft_non (m := p) k (by omega) (fun j h3 h4 => (ez j (by omega) (by omega)).1)]
      exact zft_c (fun j hj => (el j (by omega)).2.2.2.2.2.1)
    rw [hf, (el (Zft ss p) (by omega)).2.2.2.2.2.2, hc]
    exact ⟨a1, a2, Or.inl b1, a3, by rw [b1, b2]; rfl, a4, a5⟩
end
end
section
section
variable {tc ob ps su ep sd bc mA mB oX oY gY wD pC sC yt yo yh yi ya ye yp ys yc nw gn bg wd : Int32} {tk tv cb sk sv vk vv bp br bh bn bs bl px py pm cr sn sx sy sm sp dg hw fr og lf st la fm fc gr wi mn qx qy ss cl cp nx ny : Nat → Int32}
theorem zof_sm {x y : Int32} (hx : Zsm x) (hy : Zsm y) : zof x.toInt64 y.toInt64 = 0 := by
  obtain ⟨a1, a2⟩ := hx
  obtain ⟨b1, b2⟩ := hy
  have m2 : (-200 : Int64).toInt = -200 := by decide
  have p2 : (200 : Int64).toInt = 200 := by decide
  unfold zof
  rw [if_neg (by rw [z64_lt, z64_i, m2]; omega), if_neg (by rw [z64_lt, z64_i, p2]; omega), if_neg (by rw [z64_lt, z64_i, m2]; omega), if_pos (by rw [z64_le, z64_i, p2]; omega)]
theorem x_mv27 {post : Int32 → SX → Prop} {x y : Int64} {m : Nat} (hm : m ≤ 48) (k7 : m = 48 → post 7 (tc, ob, ps, su, ep, sd, bc, mA, mB, oX, oY, gY, wD, pC, sC, tk, tv, cb, sk, sv, vk, vv, bp, br, bh, bn, bs, bl, px, py, pm, cr, sn, sx, sy, sm, sp, dg)) (k5 : m < 48 → zof x y ≠ 0 → post 5 (tc, ob, ps, su, ep, sd, bc, mA, mB, oX, oY, gY, wD, pC, sC, tk, tv, cb, sk, sv, vk, vv, bp, br, bh, bn, bs, bl, px, py, pm, cr, sn, sx, sy, sm, sp, dg)) (k0 : m < 48 → zof x y = 0 → post 0 (tc, ob, ps, su, ep, sd, bc, mA, mB, oX, oY, gY, wD, nI (m + 1), sC, tk, tv, cb, sk, sv, vk, vv, bp, br, bh, bn, bs, bl, upd px m x.toInt32, upd py m y.toInt32, upd pm m 1, cr, sn, sx, sy, sm, sp, dg)) : wX_moveTo_27 post x y (nI m) tc ob ps su ep sd bc mA mB oX oY gY wD pC sC tk tv cb sk sv vk vv bp br bh bn bs bl px py pm cr sn sx sy sm sp dg := by
  refine pk_lt m 48 (fun h1 => x_off ?_) (fun h1 => k7 (by omega))
  exact br_c (fun q => x_append rfl h1 (k0 h1 q)) (fun q => k5 h1 q)
theorem st_moveto {t h n a c s pc : Nat} {PX : Int32 → SX → Prop} (hR : ZR t h n a c mA mB oX oY gY wD pC tk tv cb sk sv vk vv bp br bh bn bs bl px py pm cr sn sx sy sm sp hw fr og lf st la fm fc gr wi mn qx qy ss cl cp) (ha : a < t) (hk : tk a = 1) (hv : tv a = nI 29) (hpc : pC = nI pc) (hp48 : pc ≤ 48) (hE : ZE1 29 h sk pc = 0)
    (H : ∀ (e : Int32) (u' : SX) (v' : SY), ZStep a (s + 1) e u' v' → (∀ PY : SY → Prop, PY v' → wpY_execute PY (nI t, 0, nI h, nI n, nI a, 0, -1, nI (s + 1), nI c, nw, gn, bg, wd, tk, tv, dg, sk, sv, vk, vv, hw, fr, og, lf, st, la, fm, fc, gr, wi, mn, qx, qy, ss, cl, cp, nx, ny)) → PX e u') : wpX_execute PX (nI t, 0, nI a, nI s, -1, nI h, nI n, mA, mB, oX, oY, gY, wD, pC, nI c, tk, tv, cb, sk, sv, vk, vv, bp, br, bh, bn, bs, bl, px, py, pm, cr, sn, sx, sy, sm, sp, dg) (nI a) := by
  have hR' := hR
  obtain ⟨hT, hS, hV, hF, hPO, hG, hSV⟩ := hR
  have ht := hT.1
  have hh := hS.1
  have hmn := zg_mn hG hpc
  have hi : vp_in (nI a) 100 := vp_in_nI (by omega) (by omega)
  have e : (nI a).toNatClampNeg = a := zc_i (by omega)
  have ek : tk (nI a).toNatClampNeg = 1 := by rw [e]; exact hk
  have ev : tv (nI a).toNatClampNeg = nI 29 := by rw [e]; exact hv
  have hpn := po_next hPO ha (by rw [hk]; decide) (by rw [hk]; decide)
  obtain ⟨z1, z2, z3, z4⟩ := ze_0 hE
  have z1 : 2 ≤ h := z1
  have hP := zg_pt hG hpc hp48
  have fin : ∀ (post : Int32 → SX → Prop) (hpost : ∀ (r : Int32) (u : SX), (match u with | (tc₁, ob₁, ps₁, su₁, ep₁, sd₁, bc₁, mA₁, mB₁, oX₁, oY₁, gY₁, wD₁, pC₁, sC₁, tk₁, tv₁, cb₁, sk₁, sv₁, vk₁, vv₁, bp₁, br₁, bh₁, bn₁, bs₁, bl₁, px₁, py₁, pm₁, cr₁, sn₁, sx₁, sy₁, sm₁, sp₁, dg₁) => wX_execute_153 PX (nI 29) r tc₁ ob₁ ps₁ su₁ ep₁ sd₁ bc₁ mA₁ mB₁ oX₁ oY₁ gY₁ wD₁ pC₁ sC₁ tk₁ tv₁ cb₁ sk₁ sv₁ vk₁ vv₁ bp₁ br₁ bh₁ bn₁ bs₁ bl₁ px₁ py₁ pm₁ cr₁ sn₁ sx₁ sy₁ sm₁ sp₁ dg₁) → post r u) (m g : Nat) (UX VX : Int64), g ≤ pc → m = pc - g → (∀ Q : Int32 → SY → Prop, wY_check_129 Q (nI 29) (nI 2) (nI t) 0 (nI h) (nI n) (nI a) 0 (-1) (nI (s + 1)) (nI c) (nI (0 + 1)) (nI g) 1 (0 ||| zof UX VX) tk tv dg sk sv vk vv hw fr og lf st la fm fc gr wi mn qx qy ss cl cp (upd nx 0 UX.toInt32) (upd ny 0 VX.toInt32) → wY_check_87 Q (nI 29) (nI (ztk 29)) (nI t) 0 (nI h) (nI n) (nI a) 0 (-1) (nI (s + 1)) (nI c) nw gn bg wd tk tv dg sk sv vk vv hw fr og lf st la fm fc gr wi mn qx qy ss cl cp nx ny) → wX_moveTo_27 post UX VX (nI m) (nI t) 0 (nI (a + 1)) (nI (s + 1)) (-1) (nI h) (nI n) mA mB oX oY gY wD pC (nI c) tk tv cb sk sv vk vv bp br bh bn bs bl px py pm cr sn sx sy sm sp dg := by
    intro post hpost m g UX VX hgp hmg hY
    refine x_mv27 (by omega) (fun e => ?_) (fun hm e => ?_) (fun hm e => ?_)
    · refine hpost 7 _ (x_153e (by decide) (H 7 _ (nI t, 0, nI h, nI n, nI a, 7, -1, nI (s + 1), nI c, nI (0 + 1), nI g, 1, 0 ||| zof UX VX, tk, tv, dg, sk, sv, vk, vv, hw, fr, og, lf, st, la, fm, fc, gr, wi, mn, qx, qy, ss, cl, cp, upd nx 0 UX.toInt32, upd ny 0 VX.toInt32) (zs_er hR' (by decide)) (fun PY hp => ?_)))
      refine ⟨hi, nm_r ev ⟨hi, nm_r ek (br_f (by decide) (br_f (by decide) (br_f (by decide) (br_t rfl ?_))))⟩⟩
      unfold wY_execute_245 wpY_operate
      refine y_check (by decide) hh hp48 (zst_k hS) rfl hmn (fun z => absurd hE z) (fun _ z => absurd z (by decide)) (fun _ _ _ => hY _ (y_ckP rfl hh z1 hmn hp48 rfl hgp rfl (by omega) (by decide) (by decide) (by decide) (by decide) (by decide) (by decide) (by decide) (by decide) (by decide) (by decide) (by decide) (by decide) (by decide) (fun _ => br_f (by decide) hp) (fun z => by omega) (fun z => by omega)))
    · refine hpost 5 _ (x_153e (by decide) (H 5 _ (nI t, 0, nI h, nI n, nI a, 5, -1, nI (s + 1), nI c, nI (0 + 1), nI g, 1, 0 ||| zof UX VX, tk, tv, dg, sk, sv, vk, vv, hw, fr, og, lf, st, la, fm, fc, gr, wi, mn, qx, qy, ss, cl, cp, upd nx 0 UX.toInt32, upd ny 0 VX.toInt32) (zs_er hR' (by decide)) (fun PY hp => ?_)))
      refine ⟨hi, nm_r ev ⟨hi, nm_r ek (br_f (by decide) (br_f (by decide) (br_f (by decide) (br_t rfl ?_))))⟩⟩
      unfold wY_execute_245 wpY_operate
      refine y_check (by decide) hh hp48 (zst_k hS) rfl hmn (fun z => absurd hE z) (fun _ z => absurd z (by decide)) (fun _ _ _ => hY _ (y_ckP rfl hh z1 hmn hp48 rfl hgp rfl (by omega) (by decide) (by decide) (by decide) (by decide) (by decide) (by decide) (by decide) (by decide) (by decide) (by decide) (by decide) (by decide) (by decide) (fun z => by omega) (fun _ _ => br_f (by decide) hp) (fun _ z => absurd (by rw [zor_0] at z; exact z) e)))
    · have hb := zof_0 e
      refine hpost 0 _ (x_153 (n := 2) (by decide) rfl z1 rfl (H 0 _ (nI t, 0, nI (h - 2), nI n, nI a + 1, 0, -1, nI (s + 1), nI c, nI (0 + 1), nI g, 1, 0 ||| zof UX VX, tk, tv, dg, sk, sv, vk, vv, hw, fr, og, lf, st, la, fm, fc, gr, wi, upd mn 0 (nI (m + 1)), zf qx m (m + 1) (fun i => (upd nx 0 UX.toInt32) (i - m)), zf qy m (m + 1) (fun i => (upd ny 0 VX.toInt32) (i - m)), zf ss m (m + 1) (fun i => if (1 : Int32) ≠ 0 ∧ i = m then 1 else 0), zf cl m (m + 1) (fun _ => 0), cp, upd nx 0 UX.toInt32, upd ny 0 VX.toInt32) (zs_ok ⟨hT, zst_le hS (by omega), hV, hF, hpn, zgs_path (q := m + 1) hG (zpt_extB (zpt_cut hP (by omega)) (by omega) (by omega) (fun k hk => ⟨pk_un (by omega), pk_un (by omega), pk_un (by omega), zf_lo hk, zf_lo hk, zf_lo hk, zf_lo hk⟩) (fun k h1 h2 => ?_) ?_ pk_us (fun k h1 h2 => by omega)), zsv_up hSV zr_i zr_i zr_i zr_i zr_u (fun i hi => zf_hi (by omega)) (fun i hi => zf_hi (by omega)) (fun i hi => zf_hi (by omega)) (fun i hi => zf_hi (by omega)) zr_i⟩ rfl (nI_1 a) rfl rfl rfl rfl rfl rfl) (fun PY hp => ?_)))
      · have ek : k = m := by omega
        subst ek
        rw [zf_in (by omega) (by omega), zf_in (by omega) (by omega), zf_in (by omega) (by omega), Nat.sub_self, pk_us, pk_us, pk_us, pk_us]
        exact ⟨rfl, rfl, rfl, hb.1, hb.2⟩
      · rw [zf_in (by omega) (by omega), if_pos ⟨by decide, rfl⟩]
      · refine ⟨hi, nm_r ev ⟨hi, nm_r ek (br_f (by decide) (br_f (by decide) (br_f (by decide) (br_t rfl ?_))))⟩⟩
        unfold wY_execute_245 wpY_operate
        refine y_check (by decide) hh hp48 (zst_k hS) rfl hmn (fun z => absurd hE z) (fun _ z => absurd z (by decide)) (fun _ _ _ => hY _ (y_ckP rfl hh z1 hmn hp48 rfl hgp rfl (by omega) (by decide) (by decide) (by decide) (by decide) (by decide) (by decide) (by decide) (by decide) (by decide) (by decide) (by decide) (by decide) (by decide) (fun z => by omega) (fun _ z => absurd (by rw [zor_0]; exact e) z) (fun _ _ => br_t rfl ?_)))
        refine br_t (by decide) (br_t (by decide) (br_t (by decide) (br_t (by decide) (?_))))
        unfold wY_operate_71
        exact y_path (m := m) (q := 1) (n := 2) (by decide) (by decide) rfl z1 rfl (by omega) (by omega) (Or.inr rfl) (by decide) rfl rfl hmn hgp hmg hp48 (fun z => absurd z (by decide)) (fun _ => br_f (by decide) (nm_e hp))
  refine nm_r (nI_1 s) (nm_r (nI_1 a) ⟨hi, br_t ek ⟨hi, nm_r ev (x_oe0 (by decide) hh hp48 rfl hpc hE (br_t rfl (br_t (by decide) (br_f (by decide) (br_f (by decide) (br_f (by decide) (br_t (by decide) (br_f (by decide) (br_f (by decide) (br_f (by decide) (br_t (by decide) (?_))))))))))))⟩⟩)
  unfold wX_execute_139 wpX_changePath
  refine x_opDX (j := 0) rfl rfl hh (by omega) (x_opDY (j := 0) rfl rfl hh (by omega) ?_)
  refine br_f (by decide) (br_f (by decide) (br_f (by decide) (br_f (by decide) (br_t rfl (?_)))))
  unfold wX_changePath_104 wpX_moveTo
  subst hpc
  by_cases hp0 : pc = 0
  · subst hp0
    refine ql_t 0 0 (by omega) (fin _ (fun r u k => by obtain ⟨tc₁, ob₁, ps₁, su₁, ep₁, sd₁, bc₁, mA₁, mB₁, oX₁, oY₁, gY₁, wD₁, pC₁, sC₁, tk₁, tv₁, cb₁, sk₁, sv₁, vk₁, vv₁, bp₁, br₁, bh₁, bn₁, bs₁, bl₁, px₁, py₁, pm₁, cr₁, sn₁, sx₁, sy₁, sm₁, sp₁, dg₁⟩ := u; exact k) 0 0 (ZDX mA mB oX (sv (h - 1 - 1)).toInt64 (sv (h - 1 - 0)).toInt64) (ZDX mA mB oY (sv (h - 1 - 0)).toInt64 (-(sv (h - 1 - 1)).toInt64)) (by omega) (by omega) (fun Q k => ?_))
    refine br_f (by decide) (br_f (by decide) (br_f (by decide) (br_t (by decide) (br_t (by rw [hmn]; decide) (br_t hmn (br_t rfl (br_f (by decide) (br_f (by decide) (br_f (by decide) ⟨rfl, rfl, br_f (by decide) (br_t (by rw [hmn]; decide) (br_f (by decide) ?_))⟩)))))))))
    exact y_329n (q := 0) (by decide) hG.1 rfl hh z1 rfl (by omega) (Or.inl rfl) (br_f (by decide) k)
  · obtain ⟨p, rfl⟩ : ∃ p, pc = p + 1 := ⟨pc - 1, by omega⟩
    have hl := zft_le ss p
    have h0 := hP.2.1 (by omega)
    obtain ⟨b1, b2, b3, b4, b5, b6, b7⟩ := hP.2.2 p (by omega)
    have hzf : Zft ss p = p ↔ ss p ≠ 0 := ⟨fun z => by have := zft_ne h0 p; rw [z] at this; exact this, zft_s⟩
    have hcu : Zcu ss cl p ≤ p := zcu_le
    obtain ⟨d1, d2, d3, d4, d5, d6, d7⟩ := hP.2.2 (Zcu ss cl p) (by omega)
    have ecu : (nI (Zcu ss cl p)).toNatClampNeg = Zcu ss cl p := zc_i (by omega)
    have icu : vp_in (nI (Zcu ss cl p)) 48 := vp_in_nI (by omega) (by omega)
    have hYp : ∀ (g : Nat), (ss p ≠ 0 ∧ cl (Zft ss p) = 0 → g = 1) → (¬ (ss p ≠ 0 ∧ cl (Zft ss p) = 0) → g = 0) → ∀ Q : Int32 → SY → Prop, wY_check_129 Q (nI 29) (nI 2) (nI t) 0 (nI h) (nI n) (nI a) 0 (-1) (nI (s + 1)) (nI c) (nI (0 + 1)) (nI g) 1 (0 ||| zof (ZDX mA mB oX (sv (h - 1 - 1)).toInt64 (sv (h - 1 - 0)).toInt64) (ZDX mA mB oY (sv (h - 1 - 0)).toInt64 (-(sv (h - 1 - 1)).toInt64))) tk tv dg sk sv vk vv hw fr og lf st la fm fc gr wi mn qx qy ss cl cp (upd nx 0 (ZDX mA mB oX (sv (h - 1 - 1)).toInt64 (sv (h - 1 - 0)).toInt64).toInt32) (upd ny 0 (ZDX mA mB oY (sv (h - 1 - 0)).toInt64 (-(sv (h - 1 - 1)).toInt64)).toInt32) → wY_check_87 Q (nI 29) (nI (ztk 29)) (nI t) 0 (nI h) (nI n) (nI a) 0 (-1) (nI (s + 1)) (nI c) nw gn bg wd tk tv dg sk sv vk vv hw fr og lf st la fm fc gr wi mn qx qy ss cl cp nx ny := by
      intro g hg1 hg0 Q k
      have k2 : ∀ g', g' = g → wY_planAll_297 (fun u => match u with | (yt₁, yo₁, yh₁, yi₁, ya₁, ye₁, yp₁, ys₁, yc₁, nw₁, gn₁, bg₁, wd₁, tk₁, tv₁, dg₁, sk₁, sv₁, vk₁, vv₁, hw₁, fr₁, og₁, lf₁, st₁, la₁, fm₁, fc₁, gr₁, wi₁, mn₁, qx₁, qy₁, ss₁, cl₁, cp₁, nx₁, ny₁) => (nI 29 = 33 → ((wd₁ = 0 → wY_check_129 Q (nI 29) (nI (ztk 29)) yt₁ yo₁ yh₁ yi₁ ya₁ ye₁ yp₁ ys₁ yc₁ nw₁ gn₁ bg₁ wd₁ tk₁ tv₁ dg₁ sk₁ sv₁ vk₁ vv₁ hw₁ fr₁ og₁ lf₁ st₁ la₁ fm₁ fc₁ gr₁ wi₁ mn₁ qx₁ qy₁ ss₁ cl₁ cp₁ nx₁ ny₁) ∧ (¬ wd₁ = 0 → ((bg₁ = 0 → wY_check_125 Q (nI 29) (nI (ztk 29)) 8 (mn₁ 0) yt₁ yo₁ yh₁ yi₁ ya₁ ye₁ yp₁ ys₁ yc₁ nw₁ gn₁ bg₁ wd₁ tk₁ tv₁ dg₁ sk₁ sv₁ vk₁ vv₁ hw₁ fr₁ og₁ lf₁ st₁ la₁ fm₁ fc₁ gr₁ wi₁ mn₁ qx₁ qy₁ ss₁ cl₁ cp₁ nx₁ ny₁) ∧ (¬ bg₁ = 0 → wY_check_125 Q (nI 29) (nI (ztk 29)) 9 (mn₁ 0) yt₁ yo₁ yh₁ yi₁ ya₁ ye₁ yp₁ ys₁ yc₁ nw₁ gn₁ bg₁ wd₁ tk₁ tv₁ dg₁ sk₁ sv₁ vk₁ vv₁ hw₁ fr₁ og₁ lf₁ st₁ la₁ fm₁ fc₁ gr₁ wi₁ mn₁ qx₁ qy₁ ss₁ cl₁ cp₁ nx₁ ny₁))))) ∧ (¬ nI 29 = 33 → wY_check_129 Q (nI 29) (nI (ztk 29)) yt₁ yo₁ yh₁ yi₁ ya₁ ye₁ yp₁ ys₁ yc₁ nw₁ gn₁ bg₁ wd₁ tk₁ tv₁ dg₁ sk₁ sv₁ vk₁ vv₁ hw₁ fr₁ og₁ lf₁ st₁ la₁ fm₁ fc₁ gr₁ wi₁ mn₁ qx₁ qy₁ ss₁ cl₁ cp₁ nx₁ ny₁)) (nI 29) (nI (Zft ss p)) (nI (Zcu ss cl p)) 1 0 (nI t) 0 (nI h) (nI n) (nI a) 0 (-1) (nI (s + 1)) (nI c) 0 (nI g') 1 0 tk tv dg sk sv vk vv hw fr og lf st la fm fc gr wi mn qx qy ss cl cp nx ny := by
        intro g' hg'
        subst hg'
        exact br_f (by decide) (y_329n (q := 0) (by decide) hG.1 rfl hh z1 rfl (by omega) (Or.inl rfl) (br_f (by decide) k))
      refine br_f (by decide) (br_f (by decide) (y_pl134 (by decide) (by decide) h0 hmn (by omega) ?_))
      refine br_t rfl (br_f (by decide) (br_f (by decide) (?_)))
      refine br_f (by decide) ⟨rfl, rfl, br_f (by decide) (br_f (by rw [hmn]; exact nI_ge (a := 0) (by omega) (by omega)) ?_)⟩
      rw [hmn, nI_pred]
      refine pk_eq (Zft ss p) p (fun q1 => ⟨vp_in_nI (by omega) (by omega), ?_⟩) (fun q1 => k2 0 (hg0 (fun z => q1 (hzf.mpr z.1))).symm)
      rw [zc_i (by omega)]
      exact br_c (fun q2 => k2 1 (hg1 ⟨hzf.mp q1, q2⟩).symm) (fun q2 => k2 0 (hg0 (fun z => q2 z.2)).symm)
    refine ql_f (p + 1) 0 (by omega) ⟨by rw [nI_pred]; exact vp_in_nI (by omega) (by omega), ?_⟩
    rw [nI_pred, zc_i (n := p) (by omega), b5]
    refine br_c (fun q => ?_) (fun q => ?_)
    · have q' := zmk_e.mp q
      exact nm_r (pk_m1 p) (fin _ (fun r u k => by obtain ⟨tc₁, ob₁, ps₁, su₁, ep₁, sd₁, bc₁, mA₁, mB₁, oX₁, oY₁, gY₁, wD₁, pC₁, sC₁, tk₁, tv₁, cb₁, sk₁, sv₁, vk₁, vv₁, bp₁, br₁, bh₁, bn₁, bs₁, bl₁, px₁, py₁, pm₁, cr₁, sn₁, sx₁, sy₁, sm₁, sp₁, dg₁⟩ := u; exact k) p 1 (ZDX mA mB oX (sv (h - 1 - 1)).toInt64 (sv (h - 1 - 0)).toInt64) (ZDX mA mB oY (sv (h - 1 - 0)).toInt64 (-(sv (h - 1 - 1)).toInt64)) (by omega) (by omega) (hYp 1 (fun _ => rfl) (fun z => absurd q' z)))
    · have q' : ¬ (ss p ≠ 0 ∧ cl (Zft ss p) = 0) := fun z => q (zmk_e.mpr z)
      exact fin _ (fun r u k => by obtain ⟨tc₁, ob₁, ps₁, su₁, ep₁, sd₁, bc₁, mA₁, mB₁, oX₁, oY₁, gY₁, wD₁, pC₁, sC₁, tk₁, tv₁, cb₁, sk₁, sv₁, vk₁, vv₁, bp₁, br₁, bh₁, bn₁, bs₁, bl₁, px₁, py₁, pm₁, cr₁, sn₁, sx₁, sy₁, sm₁, sp₁, dg₁⟩ := u; exact k) (p + 1) 0 (ZDX mA mB oX (sv (h - 1 - 1)).toInt64 (sv (h - 1 - 0)).toInt64) (ZDX mA mB oY (sv (h - 1 - 0)).toInt64 (-(sv (h - 1 - 1)).toInt64)) (by omega) (by omega) (hYp 0 (fun z => absurd z q') (fun _ => rfl))
theorem st_rmoveto {t h n a c s pc : Nat} {PX : Int32 → SX → Prop} (hR : ZR t h n a c mA mB oX oY gY wD pC tk tv cb sk sv vk vv bp br bh bn bs bl px py pm cr sn sx sy sm sp hw fr og lf st la fm fc gr wi mn qx qy ss cl cp) (ha : a < t) (hk : tk a = 1) (hv : tv a = nI 31) (hpc : pC = nI pc) (hp48 : pc ≤ 48) (hE : ZE1 31 h sk pc = 0)
    (H : ∀ (e : Int32) (u' : SX) (v' : SY), ZStep a (s + 1) e u' v' → (∀ PY : SY → Prop, PY v' → wpY_execute PY (nI t, 0, nI h, nI n, nI a, 0, -1, nI (s + 1), nI c, nw, gn, bg, wd, tk, tv, dg, sk, sv, vk, vv, hw, fr, og, lf, st, la, fm, fc, gr, wi, mn, qx, qy, ss, cl, cp, nx, ny)) → PX e u') : wpX_execute PX (nI t, 0, nI a, nI s, -1, nI h, nI n, mA, mB, oX, oY, gY, wD, pC, nI c, tk, tv, cb, sk, sv, vk, vv, bp, br, bh, bn, bs, bl, px, py, pm, cr, sn, sx, sy, sm, sp, dg) (nI a) := by
  have hR' := hR
  obtain ⟨hT, hS, hV, hF, hPO, hG, hSV⟩ := hR
  have ht := hT.1
  have hh := hS.1
  have hmn := zg_mn hG hpc
  have hi : vp_in (nI a) 100 := vp_in_nI (by omega) (by omega)
  have e : (nI a).toNatClampNeg = a := zc_i (by omega)
  have ek : tk (nI a).toNatClampNeg = 1 := by rw [e]; exact hk
  have ev : tv (nI a).toNatClampNeg = nI 31 := by rw [e]; exact hv
  have hpn := po_next hPO ha (by rw [hk]; decide) (by rw [hk]; decide)
  obtain ⟨z1, z2, z3, z4⟩ := ze_0 hE
  have z1 : 2 ≤ h := z1
  have hP := zg_pt hG hpc hp48
  have fin : ∀ (post : Int32 → SX → Prop) (hpost : ∀ (r : Int32) (u : SX), (match u with | (tc₁, ob₁, ps₁, su₁, ep₁, sd₁, bc₁, mA₁, mB₁, oX₁, oY₁, gY₁, wD₁, pC₁, sC₁, tk₁, tv₁, cb₁, sk₁, sv₁, vk₁, vv₁, bp₁, br₁, bh₁, bn₁, bs₁, bl₁, px₁, py₁, pm₁, cr₁, sn₁, sx₁, sy₁, sm₁, sp₁, dg₁) => wX_execute_153 PX (nI 31) r tc₁ ob₁ ps₁ su₁ ep₁ sd₁ bc₁ mA₁ mB₁ oX₁ oY₁ gY₁ wD₁ pC₁ sC₁ tk₁ tv₁ cb₁ sk₁ sv₁ vk₁ vv₁ bp₁ br₁ bh₁ bn₁ bs₁ bl₁ px₁ py₁ pm₁ cr₁ sn₁ sx₁ sy₁ sm₁ sp₁ dg₁) → post r u) (m g : Nat) (UX VX : Int64), g ≤ pc → m = pc - g → (∀ Q : Int32 → SY → Prop, wY_check_129 Q (nI 31) (nI 2) (nI t) 0 (nI h) (nI n) (nI a) 0 (-1) (nI (s + 1)) (nI c) (nI (0 + 1)) (nI g) 1 (0 ||| zof UX VX) tk tv dg sk sv vk vv hw fr og lf st la fm fc gr wi mn qx qy ss cl cp (upd nx 0 UX.toInt32) (upd ny 0 VX.toInt32) → wY_check_87 Q (nI 31) (nI (ztk 31)) (nI t) 0 (nI h) (nI n) (nI a) 0 (-1) (nI (s + 1)) (nI c) nw gn bg wd tk tv dg sk sv vk vv hw fr og lf st la fm fc gr wi mn qx qy ss cl cp nx ny) → wX_moveTo_27 post UX VX (nI m) (nI t) 0 (nI (a + 1)) (nI (s + 1)) (-1) (nI h) (nI n) mA mB oX oY gY wD pC (nI c) tk tv cb sk sv vk vv bp br bh bn bs bl px py pm cr sn sx sy sm sp dg := by
    intro post hpost m g UX VX hgp hmg hY
    refine x_mv27 (by omega) (fun e => ?_) (fun hm e => ?_) (fun hm e => ?_)
    · refine hpost 7 _ (x_153e (by decide) (H 7 _ (nI t, 0, nI h, nI n, nI a, 7, -1, nI (s + 1), nI c, nI (0 + 1), nI g, 1, 0 ||| zof UX VX, tk, tv, dg, sk, sv, vk, vv, hw, fr, og, lf, st, la, fm, fc, gr, wi, mn, qx, qy, ss, cl, cp, upd nx 0 UX.toInt32, upd ny 0 VX.toInt32) (zs_er hR' (by decide)) (fun PY hp => ?_)))
      refine ⟨hi, nm_r ev ⟨hi, nm_r ek (br_f (by decide) (br_f (by decide) (br_f (by decide) (br_t rfl ?_))))⟩⟩
      unfold wY_execute_245 wpY_operate
      refine y_check (by decide) hh hp48 (zst_k hS) rfl hmn (fun z => absurd hE z) (fun _ z => absurd z (by decide)) (fun _ _ _ => hY _ (y_ckP rfl hh z1 hmn hp48 rfl hgp rfl (by omega) (by decide) (by decide) (by decide) (by decide) (by decide) (by decide) (by decide) (by decide) (by decide) (by decide) (by decide) (by decide) (by decide) (fun _ => br_f (by decide) hp) (fun z => by omega) (fun z => by omega)))
    · refine hpost 5 _ (x_153e (by decide) (H 5 _ (nI t, 0, nI h, nI n, nI a, 5, -1, nI (s + 1), nI c, nI (0 + 1), nI g, 1, 0 ||| zof UX VX, tk, tv, dg, sk, sv, vk, vv, hw, fr, og, lf, st, la, fm, fc, gr, wi, mn, qx, qy, ss, cl, cp, upd nx 0 UX.toInt32, upd ny 0 VX.toInt32) (zs_er hR' (by decide)) (fun PY hp => ?_)))
      refine ⟨hi, nm_r ev ⟨hi, nm_r ek (br_f (by decide) (br_f (by decide) (br_f (by decide) (br_t rfl ?_))))⟩⟩
      unfold wY_execute_245 wpY_operate
      refine y_check (by decide) hh hp48 (zst_k hS) rfl hmn (fun z => absurd hE z) (fun _ z => absurd z (by decide)) (fun _ _ _ => hY _ (y_ckP rfl hh z1 hmn hp48 rfl hgp rfl (by omega) (by decide) (by decide) (by decide) (by decide) (by decide) (by decide) (by decide) (by decide) (by decide) (by decide) (by decide) (by decide) (by decide) (fun z => by omega) (fun _ _ => br_f (by decide) hp) (fun _ z => absurd (by rw [zor_0] at z; exact z) e)))
    · have hb := zof_0 e
      refine hpost 0 _ (x_153 (n := 2) (by decide) rfl z1 rfl (H 0 _ (nI t, 0, nI (h - 2), nI n, nI a + 1, 0, -1, nI (s + 1), nI c, nI (0 + 1), nI g, 1, 0 ||| zof UX VX, tk, tv, dg, sk, sv, vk, vv, hw, fr, og, lf, st, la, fm, fc, gr, wi, upd mn 0 (nI (m + 1)), zf qx m (m + 1) (fun i => (upd nx 0 UX.toInt32) (i - m)), zf qy m (m + 1) (fun i => (upd ny 0 VX.toInt32) (i - m)), zf ss m (m + 1) (fun i => if (1 : Int32) ≠ 0 ∧ i = m then 1 else 0), zf cl m (m + 1) (fun _ => 0), cp, upd nx 0 UX.toInt32, upd ny 0 VX.toInt32) (zs_ok ⟨hT, zst_le hS (by omega), hV, hF, hpn, zgs_path (q := m + 1) hG (zpt_extB (zpt_cut hP (by omega)) (by omega) (by omega) (fun k hk => ⟨pk_un (by omega), pk_un (by omega), pk_un (by omega), zf_lo hk, zf_lo hk, zf_lo hk, zf_lo hk⟩) (fun k h1 h2 => ?_) ?_ pk_us (fun k h1 h2 => by omega)), zsv_up hSV zr_i zr_i zr_i zr_i zr_u (fun i hi => zf_hi (by omega)) (fun i hi => zf_hi (by omega)) (fun i hi => zf_hi (by omega)) (fun i hi => zf_hi (by omega)) zr_i⟩ rfl (nI_1 a) rfl rfl rfl rfl rfl rfl) (fun PY hp => ?_)))
      · have ek : k = m := by omega
        subst ek
        rw [zf_in (by omega) (by omega), zf_in (by omega) (by omega), zf_in (by omega) (by omega), Nat.sub_self, pk_us, pk_us, pk_us, pk_us]
        exact ⟨rfl, rfl, rfl, hb.1, hb.2⟩
      · rw [zf_in (by omega) (by omega), if_pos ⟨by decide, rfl⟩]
      · refine ⟨hi, nm_r ev ⟨hi, nm_r ek (br_f (by decide) (br_f (by decide) (br_f (by decide) (br_t rfl ?_))))⟩⟩
        unfold wY_execute_245 wpY_operate
        refine y_check (by decide) hh hp48 (zst_k hS) rfl hmn (fun z => absurd hE z) (fun _ z => absurd z (by decide)) (fun _ _ _ => hY _ (y_ckP rfl hh z1 hmn hp48 rfl hgp rfl (by omega) (by decide) (by decide) (by decide) (by decide) (by decide) (by decide) (by decide) (by decide) (by decide) (by decide) (by decide) (by decide) (by decide) (fun z => by omega) (fun _ z => absurd (by rw [zor_0]; exact e) z) (fun _ _ => br_t rfl ?_)))
        refine br_t (by decide) (br_t (by decide) (br_t (by decide) (br_t (by decide) (?_))))
        unfold wY_operate_71
        exact y_path (m := m) (q := 1) (n := 2) (by decide) (by decide) rfl z1 rfl (by omega) (by omega) (Or.inr rfl) (by decide) rfl rfl hmn hgp hmg hp48 (fun z => absurd z (by decide)) (fun _ => br_f (by decide) (nm_e hp))
  refine nm_r (nI_1 s) (nm_r (nI_1 a) ⟨hi, br_t ek ⟨hi, nm_r ev (x_oe0 (by decide) hh hp48 rfl hpc hE (br_t rfl (br_t (by decide) (br_f (by decide) (br_f (by decide) (br_f (by decide) (br_t (by decide) (br_f (by decide) (br_f (by decide) (br_f (by decide) (br_t (by decide) (?_))))))))))))⟩⟩)
  unfold wX_execute_139 wpX_changePath
  refine x_opDX (j := 0) rfl rfl hh (by omega) (x_opDY (j := 0) rfl rfl hh (by omega) ?_)
  have hpc0 : 0 < pc := z3 (by decide) (by decide)
  obtain ⟨p, rfl⟩ : ∃ p, pc = p + 1 := ⟨pc - 1, by omega⟩
  have hl := zft_le ss p
  have h0 := hP.2.1 (by omega)
  obtain ⟨b1, b2, b3, b4, b5, b6, b7⟩ := hP.2.2 p (by omega)
  have hzf : Zft ss p = p ↔ ss p ≠ 0 := ⟨fun z => by have := zft_ne h0 p; rw [z] at this; exact this, zft_s⟩
  have hcu : Zcu ss cl p ≤ p := zcu_le
  obtain ⟨d1, d2, d3, d4, d5, d6, d7⟩ := hP.2.2 (Zcu ss cl p) (by omega)
  have ecu : (nI (Zcu ss cl p)).toNatClampNeg = Zcu ss cl p := zc_i (by omega)
  have icu : vp_in (nI (Zcu ss cl p)) 48 := vp_in_nI (by omega) (by omega)
  have hYp : ∀ (g : Nat), (ss p ≠ 0 ∧ cl (Zft ss p) = 0 → g = 1) → (¬ (ss p ≠ 0 ∧ cl (Zft ss p) = 0) → g = 0) → ∀ Q : Int32 → SY → Prop, wY_check_129 Q (nI 31) (nI 2) (nI t) 0 (nI h) (nI n) (nI a) 0 (-1) (nI (s + 1)) (nI c) (nI (0 + 1)) (nI g) 1 (0 ||| zof (ZDX mA mB oX (sv (h - 1 - 1)).toInt64 (sv (h - 1 - 0)).toInt64 + (px (Zcu ss cl p) - oX).toInt64) (ZDX mA mB oY (sv (h - 1 - 0)).toInt64 (-(sv (h - 1 - 1)).toInt64) + (py (Zcu ss cl p) - oY).toInt64)) tk tv dg sk sv vk vv hw fr og lf st la fm fc gr wi mn qx qy ss cl cp (upd nx 0 (ZDX mA mB oX (sv (h - 1 - 1)).toInt64 (sv (h - 1 - 0)).toInt64 + (px (Zcu ss cl p) - oX).toInt64).toInt32) (upd ny 0 (ZDX mA mB oY (sv (h - 1 - 0)).toInt64 (-(sv (h - 1 - 1)).toInt64) + (py (Zcu ss cl p) - oY).toInt64).toInt32) → wY_check_87 Q (nI 31) (nI (ztk 31)) (nI t) 0 (nI h) (nI n) (nI a) 0 (-1) (nI (s + 1)) (nI c) nw gn bg wd tk tv dg sk sv vk vv hw fr og lf st la fm fc gr wi mn qx qy ss cl cp nx ny := by
    intro g hg1 hg0 Q k
    have k2 : ∀ g', g' = g → wY_planAll_297 (fun u => match u with | (yt₁, yo₁, yh₁, yi₁, ya₁, ye₁, yp₁, ys₁, yc₁, nw₁, gn₁, bg₁, wd₁, tk₁, tv₁, dg₁, sk₁, sv₁, vk₁, vv₁, hw₁, fr₁, og₁, lf₁, st₁, la₁, fm₁, fc₁, gr₁, wi₁, mn₁, qx₁, qy₁, ss₁, cl₁, cp₁, nx₁, ny₁) => (nI 31 = 33 → ((wd₁ = 0 → wY_check_129 Q (nI 31) (nI (ztk 31)) yt₁ yo₁ yh₁ yi₁ ya₁ ye₁ yp₁ ys₁ yc₁ nw₁ gn₁ bg₁ wd₁ tk₁ tv₁ dg₁ sk₁ sv₁ vk₁ vv₁ hw₁ fr₁ og₁ lf₁ st₁ la₁ fm₁ fc₁ gr₁ wi₁ mn₁ qx₁ qy₁ ss₁ cl₁ cp₁ nx₁ ny₁) ∧ (¬ wd₁ = 0 → ((bg₁ = 0 → wY_check_125 Q (nI 31) (nI (ztk 31)) 8 (mn₁ 0) yt₁ yo₁ yh₁ yi₁ ya₁ ye₁ yp₁ ys₁ yc₁ nw₁ gn₁ bg₁ wd₁ tk₁ tv₁ dg₁ sk₁ sv₁ vk₁ vv₁ hw₁ fr₁ og₁ lf₁ st₁ la₁ fm₁ fc₁ gr₁ wi₁ mn₁ qx₁ qy₁ ss₁ cl₁ cp₁ nx₁ ny₁) ∧ (¬ bg₁ = 0 → wY_check_125 Q (nI 31) (nI (ztk 31)) 9 (mn₁ 0) yt₁ yo₁ yh₁ yi₁ ya₁ ye₁ yp₁ ys₁ yc₁ nw₁ gn₁ bg₁ wd₁ tk₁ tv₁ dg₁ sk₁ sv₁ vk₁ vv₁ hw₁ fr₁ og₁ lf₁ st₁ la₁ fm₁ fc₁ gr₁ wi₁ mn₁ qx₁ qy₁ ss₁ cl₁ cp₁ nx₁ ny₁))))) ∧ (¬ nI 31 = 33 → wY_check_129 Q (nI 31) (nI (ztk 31)) yt₁ yo₁ yh₁ yi₁ ya₁ ye₁ yp₁ ys₁ yc₁ nw₁ gn₁ bg₁ wd₁ tk₁ tv₁ dg₁ sk₁ sv₁ vk₁ vv₁ hw₁ fr₁ og₁ lf₁ st₁ la₁ fm₁ fc₁ gr₁ wi₁ mn₁ qx₁ qy₁ ss₁ cl₁ cp₁ nx₁ ny₁)) (nI 31) (nI (Zft ss p)) (nI (Zcu ss cl p)) 1 1 (nI t) 0 (nI h) (nI n) (nI a) 0 (-1) (nI (s + 1)) (nI c) 0 (nI g') 1 0 tk tv dg sk sv vk vv hw fr og lf st la fm fc gr wi mn qx qy ss cl cp nx ny := by
      intro g' hg'
      subst hg'
      exact br_f (by decide) (y_329b (q := 0) (j := Zcu ss cl p) (by decide) hG.1 rfl hh z1 rfl (by omega) (Or.inl rfl) rfl (by omega) d1 d2 d6 d7 (br_f (by decide) k))
    refine br_f (by decide) (br_f (by decide) (y_pl134 (by decide) (by decide) h0 hmn (by omega) ?_))
    refine br_f (by decide) (br_t rfl (br_t rfl (?_)))
    refine br_f (by decide) ⟨rfl, rfl, br_f (by decide) (br_f (by rw [hmn]; exact nI_ge (a := 0) (by omega) (by omega)) ?_)⟩
    rw [hmn, nI_pred]
    refine pk_eq (Zft ss p) p (fun q1 => ⟨vp_in_nI (by omega) (by omega), ?_⟩) (fun q1 => k2 0 (hg0 (fun z => q1 (hzf.mpr z.1))).symm)
    rw [zc_i (by omega)]
    exact br_c (fun q2 => k2 1 (hg1 ⟨hzf.mp q1, q2⟩).symm) (fun q2 => k2 0 (hg0 (fun z => q2 z.2)).symm)
  refine br_t rfl ?_
  unfold wX_changePath_25
  refine x_curPt hP hpc ⟨icu, nm_r (show _ = (ZDX mA mB oX (sv (h - 1 - 1)).toInt64 (sv (h - 1 - 0)).toInt64 + (px (Zcu ss cl p) - oX).toInt64) by rw [ecu]) ⟨icu, nm_r (show _ = (ZDX mA mB oY (sv (h - 1 - 0)).toInt64 (-(sv (h - 1 - 1)).toInt64) + (py (Zcu ss cl p) - oY).toInt64) by rw [ecu]) (br_f (by decide) (br_f (by decide) (br_f (by decide) (br_f (by decide) (br_t rfl (?_))))))⟩⟩
  unfold wX_changePath_104 wpX_moveTo
  subst hpc
  refine ql_f (p + 1) 0 (by omega) ⟨by rw [nI_pred]; exact vp_in_nI (by omega) (by omega), ?_⟩
  rw [nI_pred, zc_i (n := p) (by omega), b5]
  refine br_c (fun q => ?_) (fun q => ?_)
  · have q' := zmk_e.mp q
    exact nm_r (pk_m1 p) (fin _ (fun r u k => by obtain ⟨tc₁, ob₁, ps₁, su₁, ep₁, sd₁, bc₁, mA₁, mB₁, oX₁, oY₁, gY₁, wD₁, pC₁, sC₁, tk₁, tv₁, cb₁, sk₁, sv₁, vk₁, vv₁, bp₁, br₁, bh₁, bn₁, bs₁, bl₁, px₁, py₁, pm₁, cr₁, sn₁, sx₁, sy₁, sm₁, sp₁, dg₁⟩ := u; exact k) p 1 (ZDX mA mB oX (sv (h - 1 - 1)).toInt64 (sv (h - 1 - 0)).toInt64 + (px (Zcu ss cl p) - oX).toInt64) (ZDX mA mB oY (sv (h - 1 - 0)).toInt64 (-(sv (h - 1 - 1)).toInt64) + (py (Zcu ss cl p) - oY).toInt64) (by omega) (by omega) (hYp 1 (fun _ => rfl) (fun z => absurd q' z)))
  · have q' : ¬ (ss p ≠ 0 ∧ cl (Zft ss p) = 0) := fun z => q (zmk_e.mpr z)
    exact fin _ (fun r u k => by obtain ⟨tc₁, ob₁, ps₁, su₁, ep₁, sd₁, bc₁, mA₁, mB₁, oX₁, oY₁, gY₁, wD₁, pC₁, sC₁, tk₁, tv₁, cb₁, sk₁, sv₁, vk₁, vv₁, bp₁, br₁, bh₁, bn₁, bs₁, bl₁, px₁, py₁, pm₁, cr₁, sn₁, sx₁, sy₁, sm₁, sp₁, dg₁⟩ := u; exact k) (p + 1) 0 (ZDX mA mB oX (sv (h - 1 - 1)).toInt64 (sv (h - 1 - 0)).toInt64 + (px (Zcu ss cl p) - oX).toInt64) (ZDX mA mB oY (sv (h - 1 - 0)).toInt64 (-(sv (h - 1 - 1)).toInt64) + (py (Zcu ss cl p) - oY).toInt64) (by omega) (by omega) (hYp 0 (fun z => absurd z q') (fun _ => rfl))
theorem st_lineto {t h n a c s pc : Nat} {PX : Int32 → SX → Prop} (hR : ZR t h n a c mA mB oX oY gY wD pC tk tv cb sk sv vk vv bp br bh bn bs bl px py pm cr sn sx sy sm sp hw fr og lf st la fm fc gr wi mn qx qy ss cl cp) (ha : a < t) (hk : tk a = 1) (hv : tv a = nI 30) (hpc : pC = nI pc) (hp48 : pc ≤ 48) (hE : ZE1 30 h sk pc = 0)
    (H : ∀ (e : Int32) (u' : SX) (v' : SY), ZStep a (s + 1) e u' v' → (∀ PY : SY → Prop, PY v' → wpY_execute PY (nI t, 0, nI h, nI n, nI a, 0, -1, nI (s + 1), nI c, nw, gn, bg, wd, tk, tv, dg, sk, sv, vk, vv, hw, fr, og, lf, st, la, fm, fc, gr, wi, mn, qx, qy, ss, cl, cp, nx, ny)) → PX e u') : wpX_execute PX (nI t, 0, nI a, nI s, -1, nI h, nI n, mA, mB, oX, oY, gY, wD, pC, nI c, tk, tv, cb, sk, sv, vk, vv, bp, br, bh, bn, bs, bl, px, py, pm, cr, sn, sx, sy, sm, sp, dg) (nI a) := by
  have hR' := hR
  obtain ⟨hT, hS, hV, hF, hPO, hG, hSV⟩ := hR
  have ht := hT.1
  have hh := hS.1
  have hmn := zg_mn hG hpc
  have hi : vp_in (nI a) 100 := vp_in_nI (by omega) (by omega)
  have e : (nI a).toNatClampNeg = a := zc_i (by omega)
  have ek : tk (nI a).toNatClampNeg = 1 := by rw [e]; exact hk
  have ev : tv (nI a).toNatClampNeg = nI 30 := by rw [e]; exact hv
  have hpn := po_next hPO ha (by rw [hk]; decide) (by rw [hk]; decide)
  obtain ⟨z1, z2, z3, z4⟩ := ze_0 hE
  have z1 : 2 ≤ h := z1
  have hP := zg_pt hG hpc hp48
  have hpc0 : 0 < pc := z3 (by decide) (by decide)
  obtain ⟨p, rfl⟩ : ∃ p, pc = p + 1 := ⟨pc - 1, by omega⟩
  have hl := zft_le ss p
  have h0 := hP.2.1 (by omega)
  have hcu : Zcu ss cl p ≤ p := zcu_le
  obtain ⟨d1, d2, d3, d4, d5, d6, d7⟩ := hP.2.2 (Zcu ss cl p) (by omega)
  obtain ⟨f1, f2, f3, f4, f5, f6, f7⟩ := hP.2.2 (Zft ss p) (by omega)
  have ecu : (nI (Zcu ss cl p)).toNatClampNeg = Zcu ss cl p := zc_i (by omega)
  have icu : vp_in (nI (Zcu ss cl p)) 48 := vp_in_nI (by omega) (by omega)
  have eft : (nI (Zft ss p)).toNatClampNeg = Zft ss p := zc_i (by omega)
  have ift : vp_in (nI (Zft ss p)) 48 := vp_in_nI (by omega) (by omega)
  have ift2 : vp_in (nI (Zft ss p)) 240 := vp_in_nI (by omega) (by omega)
  have hz0 := zof_sm f6 f7
  have hYo : cl (Zft ss p) = 0 → ∀ Q : Int32 → SY → Prop, wY_check_129 Q (nI 30) (nI 2) (nI t) 0 (nI h) (nI n) (nI a) 0 (-1) (nI (s + 1)) (nI c) (nI (0 + 1)) 0 0 (0 ||| zof (ZDX mA mB oX (sv (h - 1 - 1)).toInt64 (sv (h - 1 - 0)).toInt64) (ZDX mA mB oY (sv (h - 1 - 0)).toInt64 (-(sv (h - 1 - 1)).toInt64))) tk tv dg sk sv vk vv hw fr og lf st la fm fc gr wi mn qx qy ss cl cp (upd nx 0 (ZDX mA mB oX (sv (h - 1 - 1)).toInt64 (sv (h - 1 - 0)).toInt64).toInt32) (upd ny 0 (ZDX mA mB oY (sv (h - 1 - 0)).toInt64 (-(sv (h - 1 - 1)).toInt64)).toInt32) → wY_check_87 Q (nI 30) (nI (ztk 30)) (nI t) 0 (nI h) (nI n) (nI a) 0 (-1) (nI (s + 1)) (nI c) nw gn bg wd tk tv dg sk sv vk vv hw fr og lf st la fm fc gr wi mn qx qy ss cl cp nx ny := by
    intro hc Q k
    refine br_f (by decide) (br_f (by decide) (y_pl134 (by decide) (by decide) h0 hmn (by omega) (br_f (by decide) (br_f (by decide) (br_f (by decide) (br_f (by decide) (br_t rfl (?_))))))))
    refine ⟨ift2, br_t (by rw [eft]; exact hc) ⟨rfl, rfl, br_t rfl (br_t rfl ⟨ift2, br_t (by rw [eft]; exact hc) ?_⟩)⟩⟩
    exact y_329n (q := 0) (by decide) hG.1 rfl hh z1 rfl (by omega) (Or.inl rfl) (br_f (by decide) k)
  have hYc : cl (Zft ss p) ≠ 0 → ∀ Q : Int32 → SY → Prop, wY_check_129 Q (nI 30) (nI 2) (nI t) 0 (nI h) (nI n) (nI a) 0 (-1) (nI (s + 1)) (nI c) (nI (1 + 1)) 0 1 ((0 ||| zof (px (Zft ss p)).toInt64 (py (Zft ss p)).toInt64) ||| zof (ZDX mA mB oX (sv (h - 1 - 1)).toInt64 (sv (h - 1 - 0)).toInt64) (ZDX mA mB oY (sv (h - 1 - 0)).toInt64 (-(sv (h - 1 - 1)).toInt64))) tk tv dg sk sv vk vv hw fr og lf st la fm fc gr wi mn qx qy ss cl cp (upd (upd nx 0 ((px (Zft ss p)).toInt64).toInt32) 1 (ZDX mA mB oX (sv (h - 1 - 1)).toInt64 (sv (h - 1 - 0)).toInt64).toInt32) (upd (upd ny 0 ((py (Zft ss p)).toInt64).toInt32) 1 (ZDX mA mB oY (sv (h - 1 - 0)).toInt64 (-(sv (h - 1 - 1)).toInt64)).toInt32) → wY_check_87 Q (nI 30) (nI (ztk 30)) (nI t) 0 (nI h) (nI n) (nI a) 0 (-1) (nI (s + 1)) (nI c) nw gn bg wd tk tv dg sk sv vk vv hw fr og lf st la fm fc gr wi mn qx qy ss cl cp nx ny := by
    intro hc Q k
    refine br_f (by decide) (br_f (by decide) (y_pl134 (by decide) (by decide) h0 hmn (by omega) (br_f (by decide) (br_f (by decide) (br_f (by decide) (br_f (by decide) (br_t rfl (?_))))))))
    refine ⟨ift2, br_f (by rw [eft]; exact hc) ⟨rfl, rfl, br_t rfl (br_t rfl ⟨ift2, br_f (by rw [eft]; exact hc) ⟨ift2, ift2, ?_⟩⟩)⟩⟩
    rw [eft, f1, f2]
    refine y_plan (q := 0) rfl (by omega) (Or.inl rfl) ?_
    exact y_329n (q := 1) (by decide) hG.1 rfl hh z1 rfl (by omega) (by rw [zor_0]; exact zof_01 _ _) (br_f (by decide) k)
  refine nm_r (nI_1 s) (nm_r (nI_1 a) ⟨hi, br_t ek ⟨hi, nm_r ev (x_oe0 (by decide) hh hp48 rfl hpc hE (br_t rfl (br_t (by decide) (br_f (by decide) (br_f (by decide) (br_f (by decide) (br_t (by decide) (br_f (by decide) (br_f (by decide) (br_f (by decide) (br_t (by decide) (?_))))))))))))⟩⟩)
  unfold wX_execute_139 wpX_changePath
  refine x_opDX (j := 0) rfl rfl hh (by omega) (x_opDY (j := 0) rfl rfl hh (by omega) ?_)
  refine br_f (by decide) (br_f (by decide) (br_f (by decide) (br_f (by decide) (br_f (by decide) (br_t rfl (?_))))))
  unfold wX_changePath_112 wpX_lineTo
  refine x_lastClosed hP hpc ?_
  subst hpc
  by_cases hc : cl (Zft ss p) = 0
  · rw [if_pos hc]
    refine br_t rfl ?_
    refine pk_le (p + 1 + 1) 48 (fun q1 => x_off ?_) (fun q1 => ?_) (nI_1 (p + 1))
    · by_cases e : zof (ZDX mA mB oX (sv (h - 1 - 1)).toInt64 (sv (h - 1 - 0)).toInt64) (ZDX mA mB oY (sv (h - 1 - 0)).toInt64 (-(sv (h - 1 - 1)).toInt64)) = 0
      · have hb := zof_0 e
        refine br_t e (br_t rfl ?_)
        unfold wX_lineTo_71
        refine x_append rfl (by omega) (x_153 (n := 2) (by decide) rfl z1 rfl (H 0 _ (nI t, 0, nI (h - 2), nI n, nI a + 1, 0, -1, nI (s + 1), nI c, nI (0 + 1), 0, 0, 0 ||| zof (ZDX mA mB oX (sv (h - 1 - 1)).toInt64 (sv (h - 1 - 0)).toInt64) (ZDX mA mB oY (sv (h - 1 - 0)).toInt64 (-(sv (h - 1 - 1)).toInt64)), tk, tv, dg, sk, sv, vk, vv, hw, fr, og, lf, st, la, fm, fc, gr, wi, upd mn 0 (nI (p + 1 + 1)), zf qx (p + 1) (p + 1 + 1) (fun i => (upd nx 0 (ZDX mA mB oX (sv (h - 1 - 1)).toInt64 (sv (h - 1 - 0)).toInt64).toInt32) (i - (p + 1))), zf qy (p + 1) (p + 1 + 1) (fun i => (upd ny 0 (ZDX mA mB oY (sv (h - 1 - 0)).toInt64 (-(sv (h - 1 - 1)).toInt64)).toInt32) (i - (p + 1))), zf ss (p + 1) (p + 1 + 1) (fun i => if (0 : Int32) ≠ 0 ∧ i = p + 1 then 1 else 0), zf cl (p + 1) (p + 1 + 1) (fun _ => 0), cp, upd nx 0 (ZDX mA mB oX (sv (h - 1 - 1)).toInt64 (sv (h - 1 - 0)).toInt64).toInt32, upd ny 0 (ZDX mA mB oY (sv (h - 1 - 0)).toInt64 (-(sv (h - 1 - 1)).toInt64)).toInt32) (zs_ok ⟨hT, zst_le hS (by omega), hV, hF, hpn, zgs_path (q := p + 1 + 1) hG (zpt_extN hP hc (by omega) (fun k hk => ⟨pk_un (by omega), pk_un (by omega), pk_un (by omega), zf_lo hk, zf_lo hk, zf_lo hk, zf_lo hk⟩) (fun k h1 h2 => ?_) (fun k h1 h2 => ?_)), zsv_up hSV zr_i zr_i zr_i zr_i zr_u (fun i hi => zf_hi (by omega)) (fun i hi => zf_hi (by omega)) (fun i hi => zf_hi (by omega)) (fun i hi => zf_hi (by omega)) zr_i⟩ rfl (nI_1 a) rfl rfl rfl rfl rfl rfl) (fun PY hp => ?_)))
        · have ek : k = p + 1 := by omega
          subst ek
          rw [zf_in (by omega) (by omega), zf_in (by omega) (by omega), zf_in (by omega) (by omega), Nat.sub_self, pk_us, pk_us, pk_us, pk_us]
          exact ⟨rfl, rfl, rfl, hb.1, hb.2⟩
        · have ek : k = p + 1 := by omega
          subst ek
          rw [zf_in (by omega) (by omega), if_neg (fun z => z.1 rfl), pk_us]
          exact ⟨rfl, rfl⟩
        · refine ⟨hi, nm_r ev ⟨hi, nm_r ek (br_f (by decide) (br_f (by decide) (br_f (by decide) (br_t rfl ?_))))⟩⟩
          unfold wY_execute_245 wpY_operate
          refine y_check (by decide) hh hp48 (zst_k hS) rfl hmn (fun z => absurd hE z) (fun _ z => absurd z (by decide)) (fun _ _ _ => hYo hc _ (y_ckP (g := 0) rfl hh z1 hmn hp48 rfl (by omega) rfl (by omega) (by decide) (by decide) (by decide) (by decide) (by decide) (by decide) (by decide) (by decide) (by decide) (by decide) (by decide) (by decide) (by decide) (fun z => by omega) (fun _ z => absurd (by rw [zor_0]; exact e) z) (fun _ _ => br_t rfl ?_)))
          refine br_t (by decide) (br_t (by decide) (br_t (by decide) (br_t (by decide) (?_))))
          unfold wY_operate_71
          exact y_path (m := p + 1) (q := 1) (n := 2) (g := 0) (by decide) (by decide) rfl z1 rfl (by omega) (by omega) (Or.inl rfl) (by decide) rfl rfl hmn (by omega) (by omega) hp48 (fun z => absurd z (by decide)) (fun _ => br_f (by decide) (nm_e hp))
      · refine br_f e (x_153e (by decide) (H 5 _ (nI t, 0, nI h, nI n, nI a, 5, -1, nI (s + 1), nI c, nI (0 + 1), 0, 0, 0 ||| zof (ZDX mA mB oX (sv (h - 1 - 1)).toInt64 (sv (h - 1 - 0)).toInt64) (ZDX mA mB oY (sv (h - 1 - 0)).toInt64 (-(sv (h - 1 - 1)).toInt64)), tk, tv, dg, sk, sv, vk, vv, hw, fr, og, lf, st, la, fm, fc, gr, wi, mn, qx, qy, ss, cl, cp, upd nx 0 (ZDX mA mB oX (sv (h - 1 - 1)).toInt64 (sv (h - 1 - 0)).toInt64).toInt32, upd ny 0 (ZDX mA mB oY (sv (h - 1 - 0)).toInt64 (-(sv (h - 1 - 1)).toInt64)).toInt32) (zs_er hR' (by decide)) (fun PY hp => ?_)))
        refine ⟨hi, nm_r ev ⟨hi, nm_r ek (br_f (by decide) (br_f (by decide) (br_f (by decide) (br_t rfl ?_))))⟩⟩
        unfold wY_execute_245 wpY_operate
        refine y_check (by decide) hh hp48 (zst_k hS) rfl hmn (fun z => absurd hE z) (fun _ z => absurd z (by decide)) (fun _ _ _ => hYo hc _ (y_ckP (g := 0) rfl hh z1 hmn hp48 rfl (by omega) rfl (by omega) (by decide) (by decide) (by decide) (by decide) (by decide) (by decide) (by decide) (by decide) (by decide) (by decide) (by decide) (by decide) (by decide) (fun z => by omega) (fun _ _ => br_f (by decide) hp) (fun _ z => absurd (by rw [zor_0] at z; exact z) e)))
    · refine x_153e (by decide) (H 7 _ (nI t, 0, nI h, nI n, nI a, 7, -1, nI (s + 1), nI c, nI (0 + 1), 0, 0, 0 ||| zof (ZDX mA mB oX (sv (h - 1 - 1)).toInt64 (sv (h - 1 - 0)).toInt64) (ZDX mA mB oY (sv (h - 1 - 0)).toInt64 (-(sv (h - 1 - 1)).toInt64)), tk, tv, dg, sk, sv, vk, vv, hw, fr, og, lf, st, la, fm, fc, gr, wi, mn, qx, qy, ss, cl, cp, upd nx 0 (ZDX mA mB oX (sv (h - 1 - 1)).toInt64 (sv (h - 1 - 0)).toInt64).toInt32, upd ny 0 (ZDX mA mB oY (sv (h - 1 - 0)).toInt64 (-(sv (h - 1 - 1)).toInt64)).toInt32) (zs_er hR' (by decide)) (fun PY hp => ?_))
      refine ⟨hi, nm_r ev ⟨hi, nm_r ek (br_f (by decide) (br_f (by decide) (br_f (by decide) (br_t rfl ?_))))⟩⟩
      unfold wY_execute_245 wpY_operate
      refine y_check (by decide) hh hp48 (zst_k hS) rfl hmn (fun z => absurd hE z) (fun _ z => absurd z (by decide)) (fun _ _ _ => hYo hc _ (y_ckP (g := 0) rfl hh z1 hmn hp48 rfl (by omega) rfl (by omega) (by decide) (by decide) (by decide) (by decide) (by decide) (by decide) (by decide) (by decide) (by decide) (by decide) (by decide) (by decide) (by decide) (fun _ => br_f (by decide) hp) (fun z => by omega) (fun z => by omega)))
  · rw [if_neg hc]
    refine br_f (by decide) ?_
    refine pk_le (p + 1 + 2) 48 (fun q1 => x_off ?_) (fun q1 => ?_) (nI_add (p + 1) 2)
    · by_cases e : zof (ZDX mA mB oX (sv (h - 1 - 1)).toInt64 (sv (h - 1 - 0)).toInt64) (ZDX mA mB oY (sv (h - 1 - 0)).toInt64 (-(sv (h - 1 - 1)).toInt64)) = 0
      · have hb := zof_0 e
        refine br_t e (br_f (by decide) (x_lastSub hP rfl ⟨ift, ift, ?_⟩))
        rw [eft]
        unfold wX_lineTo_71
        refine x_append rfl (by omega) (x_append rfl (by omega) (x_153 (n := 2) (by decide) rfl z1 rfl (H 0 _ (nI t, 0, nI (h - 2), nI n, nI a + 1, 0, -1, nI (s + 1), nI c, nI (1 + 1), 0, 1, (0 ||| zof (px (Zft ss p)).toInt64 (py (Zft ss p)).toInt64) ||| zof (ZDX mA mB oX (sv (h - 1 - 1)).toInt64 (sv (h - 1 - 0)).toInt64) (ZDX mA mB oY (sv (h - 1 - 0)).toInt64 (-(sv (h - 1 - 1)).toInt64)), tk, tv, dg, sk, sv, vk, vv, hw, fr, og, lf, st, la, fm, fc, gr, wi, upd mn 0 (nI (p + 1 + 2)), zf qx (p + 1) (p + 1 + 2) (fun i => (upd (upd nx 0 ((px (Zft ss p)).toInt64).toInt32) 1 (ZDX mA mB oX (sv (h - 1 - 1)).toInt64 (sv (h - 1 - 0)).toInt64).toInt32) (i - (p + 1))), zf qy (p + 1) (p + 1 + 2) (fun i => (upd (upd ny 0 ((py (Zft ss p)).toInt64).toInt32) 1 (ZDX mA mB oY (sv (h - 1 - 0)).toInt64 (-(sv (h - 1 - 1)).toInt64)).toInt32) (i - (p + 1))), zf ss (p + 1) (p + 1 + 2) (fun i => if (1 : Int32) ≠ 0 ∧ i = p + 1 then 1 else 0), zf cl (p + 1) (p + 1 + 2) (fun _ => 0), cp, upd (upd nx 0 ((px (Zft ss p)).toInt64).toInt32) 1 (ZDX mA mB oX (sv (h - 1 - 1)).toInt64 (sv (h - 1 - 0)).toInt64).toInt32, upd (upd ny 0 ((py (Zft ss p)).toInt64).toInt32) 1 (ZDX mA mB oY (sv (h - 1 - 0)).toInt64 (-(sv (h - 1 - 1)).toInt64)).toInt32) (zs_ok ⟨hT, zst_le hS (by omega), hV, hF, hpn, zgs_path (q := p + 1 + 2) hG (zpt_extB hP (by omega) (by omega) (fun k hk => ⟨by rw [pk_un (by omega), pk_un (by omega)], by rw [pk_un (by omega), pk_un (by omega)], by rw [pk_un (by omega), pk_un (by omega)], zf_lo hk, zf_lo hk, zf_lo hk, zf_lo hk⟩) (fun k h1 h2 => ?_) ?_ ?_ (fun k h1 h2 => ?_)), zsv_up hSV zr_i zr_i zr_i zr_i zr_u (fun i hi => zf_hi (by omega)) (fun i hi => zf_hi (by omega)) (fun i hi => zf_hi (by omega)) (fun i hi => zf_hi (by omega)) zr_i⟩ rfl (nI_1 a) rfl rfl rfl rfl rfl rfl) (fun PY hp => ?_))))
        · rw [zf_in (by omega) (by omega), zf_in (by omega) (by omega), zf_in (by omega) (by omega)]
          by_cases ek : k = p + 1
          · subst ek
            rw [Nat.sub_self, pk_un (by omega), pk_us, pk_un (by omega), pk_us, pk_un (by omega), pk_us, pk_un (by omega), pk_us, Int32.toInt32_toInt64, Int32.toInt32_toInt64]
            exact ⟨rfl, rfl, rfl, f6, f7⟩
          · have ek : k = p + 1 + 1 := by omega
            subst ek
            rw [show p + 1 + 1 - (p + 1) = 1 by omega, pk_us, pk_us, pk_us, pk_us]
            exact ⟨rfl, rfl, rfl, hb.1, hb.2⟩
        · rw [zf_in (by omega) (by omega), if_pos ⟨by decide, rfl⟩]
        · rw [pk_un (by omega), pk_us]
        · have ek : k = p + 1 + 1 := by omega
          subst ek
          rw [zf_in (by omega) (by omega), if_neg (fun z => by omega), pk_us]
          exact ⟨rfl, rfl⟩
        · refine ⟨hi, nm_r ev ⟨hi, nm_r ek (br_f (by decide) (br_f (by decide) (br_f (by decide) (br_t rfl ?_))))⟩⟩
          unfold wY_execute_245 wpY_operate
          refine y_check (by decide) hh hp48 (zst_k hS) rfl hmn (fun z => absurd hE z) (fun _ z => absurd z (by decide)) (fun _ _ _ => hYc hc _ (y_ckP (g := 0) rfl hh z1 hmn hp48 rfl (by omega) rfl (by omega) (by decide) (by decide) (by decide) (by decide) (by decide) (by decide) (by decide) (by decide) (by decide) (by decide) (by decide) (by decide) (by decide) (fun z => by omega) (fun _ z => absurd (by rw [zor_0, hz0, zor_0]; exact e) z) (fun _ _ => br_t rfl ?_)))
          refine br_t (by decide) (br_t (by decide) (br_t (by decide) (br_t (by decide) (?_))))
          unfold wY_operate_71
          exact y_path (m := p + 1) (q := 2) (n := 2) (g := 0) (by decide) (by decide) rfl z1 rfl (by omega) (by omega) (Or.inr rfl) (by decide) rfl rfl hmn (by omega) (by omega) hp48 (fun z => absurd z (by decide)) (fun _ => br_f (by decide) (nm_e hp))
      · refine br_f e (x_153e (by decide) (H 5 _ (nI t, 0, nI h, nI n, nI a, 5, -1, nI (s + 1), nI c, nI (1 + 1), 0, 1, (0 ||| zof (px (Zft ss p)).toInt64 (py (Zft ss p)).toInt64) ||| zof (ZDX mA mB oX (sv (h - 1 - 1)).toInt64 (sv (h - 1 - 0)).toInt64) (ZDX mA mB oY (sv (h - 1 - 0)).toInt64 (-(sv (h - 1 - 1)).toInt64)), tk, tv, dg, sk, sv, vk, vv, hw, fr, og, lf, st, la, fm, fc, gr, wi, mn, qx, qy, ss, cl, cp, upd (upd nx 0 ((px (Zft ss p)).toInt64).toInt32) 1 (ZDX mA mB oX (sv (h - 1 - 1)).toInt64 (sv (h - 1 - 0)).toInt64).toInt32, upd (upd ny 0 ((py (Zft ss p)).toInt64).toInt32) 1 (ZDX mA mB oY (sv (h - 1 - 0)).toInt64 (-(sv (h - 1 - 1)).toInt64)).toInt32) (zs_er hR' (by decide)) (fun PY hp => ?_)))
        refine ⟨hi, nm_r ev ⟨hi, nm_r ek (br_f (by decide) (br_f (by decide) (br_f (by decide) (br_t rfl ?_))))⟩⟩
        unfold wY_execute_245 wpY_operate
        refine y_check (by decide) hh hp48 (zst_k hS) rfl hmn (fun z => absurd hE z) (fun _ z => absurd z (by decide)) (fun _ _ _ => hYc hc _ (y_ckP (g := 0) rfl hh z1 hmn hp48 rfl (by omega) rfl (by omega) (by decide) (by decide) (by decide) (by decide) (by decide) (by decide) (by decide) (by decide) (by decide) (by decide) (by decide) (by decide) (by decide) (fun z => by omega) (fun _ _ => br_f (by decide) hp) (fun _ z => absurd (by rw [zor_0, hz0, zor_0] at z; exact z) e)))
    · refine x_153e (by decide) (H 7 _ (nI t, 0, nI h, nI n, nI a, 7, -1, nI (s + 1), nI c, nI (1 + 1), 0, 1, (0 ||| zof (px (Zft ss p)).toInt64 (py (Zft ss p)).toInt64) ||| zof (ZDX mA mB oX (sv (h - 1 - 1)).toInt64 (sv (h - 1 - 0)).toInt64) (ZDX mA mB oY (sv (h - 1 - 0)).toInt64 (-(sv (h - 1 - 1)).toInt64)), tk, tv, dg, sk, sv, vk, vv, hw, fr, og, lf, st, la, fm, fc, gr, wi, mn, qx, qy, ss, cl, cp, upd (upd nx 0 ((px (Zft ss p)).toInt64).toInt32) 1 (ZDX mA mB oX (sv (h - 1 - 1)).toInt64 (sv (h - 1 - 0)).toInt64).toInt32, upd (upd ny 0 ((py (Zft ss p)).toInt64).toInt32) 1 (ZDX mA mB oY (sv (h - 1 - 0)).toInt64 (-(sv (h - 1 - 1)).toInt64)).toInt32) (zs_er hR' (by decide)) (fun PY hp => ?_))
      refine ⟨hi, nm_r ev ⟨hi, nm_r ek (br_f (by decide) (br_f (by decide) (br_f (by decide) (br_t rfl ?_))))⟩⟩
      unfold wY_execute_245 wpY_operate
      refine y_check (by decide) hh hp48 (zst_k hS) rfl hmn (fun z => absurd hE z) (fun _ z => absurd z (by decide)) (fun _ _ _ => hYc hc _ (y_ckP (g := 0) rfl hh z1 hmn hp48 rfl (by omega) rfl (by omega) (by decide) (by decide) (by decide) (by decide) (by decide) (by decide) (by decide) (by decide) (by decide) (by decide) (by decide) (by decide) (by decide) (fun _ => br_f (by decide) hp) (fun z => by omega) (fun z => by omega)))
theorem st_rlineto {t h n a c s pc : Nat} {PX : Int32 → SX → Prop} (hR : ZR t h n a c mA mB oX oY gY wD pC tk tv cb sk sv vk vv bp br bh bn bs bl px py pm cr sn sx sy sm sp hw fr og lf st la fm fc gr wi mn qx qy ss cl cp) (ha : a < t) (hk : tk a = 1) (hv : tv a = nI 32) (hpc : pC = nI pc) (hp48 : pc ≤ 48) (hE : ZE1 32 h sk pc = 0)
    (H : ∀ (e : Int32) (u' : SX) (v' : SY), ZStep a (s + 1) e u' v' → (∀ PY : SY → Prop, PY v' → wpY_execute PY (nI t, 0, nI h, nI n, nI a, 0, -1, nI (s + 1), nI c, nw, gn, bg, wd, tk, tv, dg, sk, sv, vk, vv, hw, fr, og, lf, st, la, fm, fc, gr, wi, mn, qx, qy, ss, cl, cp, nx, ny)) → PX e u') : wpX_execute PX (nI t, 0, nI a, nI s, -1, nI h, nI n, mA, mB, oX, oY, gY, wD, pC, nI c, tk, tv, cb, sk, sv, vk, vv, bp, br, bh, bn, bs, bl, px, py, pm, cr, sn, sx, sy, sm, sp, dg) (nI a) := by
  have hR' := hR
  obtain ⟨hT, hS, hV, hF, hPO, hG, hSV⟩ := hR
  have ht := hT.1
  have hh := hS.1
  have hmn := zg_mn hG hpc
  have hi : vp_in (nI a) 100 := vp_in_nI (by omega) (by omega)
  have e : (nI a).toNatClampNeg = a := zc_i (by omega)
  have ek : tk (nI a).toNatClampNeg = 1 := by rw [e]; exact hk
  have ev : tv (nI a).toNatClampNeg = nI 32 := by rw [e]; exact hv
  have hpn := po_next hPO ha (by rw [hk]; decide) (by rw [hk]; decide)
  obtain ⟨z1, z2, z3, z4⟩ := ze_0 hE
  have z1 : 2 ≤ h := z1
  have hP := zg_pt hG hpc hp48
  have hpc0 : 0 < pc := z3 (by decide) (by decide)
  obtain ⟨p, rfl⟩ : ∃ p, pc = p + 1 := ⟨pc - 1, by omega⟩
  have hl := zft_le ss p
  have h0 := hP.2.1 (by omega)
  have hcu : Zcu ss cl p ≤ p := zcu_le
  obtain ⟨d1, d2, d3, d4, d5, d6, d7⟩ := hP.2.2 (Zcu ss cl p) (by omega)
  obtain ⟨f1, f2, f3, f4, f5, f6, f7⟩ := hP.2.2 (Zft ss p) (by omega)
  have ecu : (nI (Zcu ss cl p)).toNatClampNeg = Zcu ss cl p := zc_i (by omega)
  have icu : vp_in (nI (Zcu ss cl p)) 48 := vp_in_nI (by omega) (by omega)
  have eft : (nI (Zft ss p)).toNatClampNeg = Zft ss p := zc_i (by omega)
  have ift : vp_in (nI (Zft ss p)) 48 := vp_in_nI (by omega) (by omega)
  have ift2 : vp_in (nI (Zft ss p)) 240 := vp_in_nI (by omega) (by omega)
  have hz0 := zof_sm f6 f7
  have hYo : cl (Zft ss p) = 0 → ∀ Q : Int32 → SY → Prop, wY_check_129 Q (nI 32) (nI 2) (nI t) 0 (nI h) (nI n) (nI a) 0 (-1) (nI (s + 1)) (nI c) (nI (0 + 1)) 0 0 (0 ||| zof (ZDX mA mB oX (sv (h - 1 - 1)).toInt64 (sv (h - 1 - 0)).toInt64 + (px (Zcu ss cl p) - oX).toInt64) (ZDX mA mB oY (sv (h - 1 - 0)).toInt64 (-(sv (h - 1 - 1)).toInt64) + (py (Zcu ss cl p) - oY).toInt64)) tk tv dg sk sv vk vv hw fr og lf st la fm fc gr wi mn qx qy ss cl cp (upd nx 0 (ZDX mA mB oX (sv (h - 1 - 1)).toInt64 (sv (h - 1 - 0)).toInt64 + (px (Zcu ss cl p) - oX).toInt64).toInt32) (upd ny 0 (ZDX mA mB oY (sv (h - 1 - 0)).toInt64 (-(sv (h - 1 - 1)).toInt64) + (py (Zcu ss cl p) - oY).toInt64).toInt32) → wY_check_87 Q (nI 32) (nI (ztk 32)) (nI t) 0 (nI h) (nI n) (nI a) 0 (-1) (nI (s + 1)) (nI c) nw gn bg wd tk tv dg sk sv vk vv hw fr og lf st la fm fc gr wi mn qx qy ss cl cp nx ny := by
    intro hc Q k
    refine br_f (by decide) (br_f (by decide) (y_pl134 (by decide) (by decide) h0 hmn (by omega) (br_f (by decide) (br_f (by decide) (br_f (by decide) (br_t rfl (br_t rfl (?_))))))))
    refine ⟨ift2, br_t (by rw [eft]; exact hc) ⟨rfl, rfl, br_t rfl (br_t rfl ⟨ift2, br_t (by rw [eft]; exact hc) ?_⟩)⟩⟩
    exact y_329b (q := 0) (j := Zcu ss cl p) (by decide) hG.1 rfl hh z1 rfl (by omega) (Or.inl rfl) rfl (by omega) d1 d2 d6 d7 (br_f (by decide) k)
  have hYc : cl (Zft ss p) ≠ 0 → ∀ Q : Int32 → SY → Prop, wY_check_129 Q (nI 32) (nI 2) (nI t) 0 (nI h) (nI n) (nI a) 0 (-1) (nI (s + 1)) (nI c) (nI (1 + 1)) 0 1 ((0 ||| zof (px (Zft ss p)).toInt64 (py (Zft ss p)).toInt64) ||| zof (ZDX mA mB oX (sv (h - 1 - 1)).toInt64 (sv (h - 1 - 0)).toInt64 + (px (Zcu ss cl p) - oX).toInt64) (ZDX mA mB oY (sv (h - 1 - 0)).toInt64 (-(sv (h - 1 - 1)).toInt64) + (py (Zcu ss cl p) - oY).toInt64)) tk tv dg sk sv vk vv hw fr og lf st la fm fc gr wi mn qx qy ss cl cp (upd (upd nx 0 ((px (Zft ss p)).toInt64).toInt32) 1 (ZDX mA mB oX (sv (h - 1 - 1)).toInt64 (sv (h - 1 - 0)).toInt64 + (px (Zcu ss cl p) - oX).toInt64).toInt32) (upd (upd ny 0 ((py (Zft ss p)).toInt64).toInt32) 1 (ZDX mA mB oY (sv (h - 1 - 0)).toInt64 (-(sv (h - 1 - 1)).toInt64) + (py (Zcu ss cl p) - oY).toInt64).toInt32) → wY_check_87 Q (nI 32) (nI (ztk 32)) (nI t) 0 (nI h) (nI n) (nI a) 0 (-1) (nI (s + 1)) (nI c) nw gn bg wd tk tv dg sk sv vk vv hw fr og lf st la fm fc gr wi mn qx qy ss cl cp nx ny := by
    intro hc Q k
    refine br_f (by decide) (br_f (by decide) (y_pl134 (by decide) (by decide) h0 hmn (by omega) (br_f (by decide) (br_f (by decide) (br_f (by decide) (br_t rfl (br_t rfl (?_))))))))
    refine ⟨ift2, br_f (by rw [eft]; exact hc) ⟨rfl, rfl, br_t rfl (br_t rfl ⟨ift2, br_f (by rw [eft]; exact hc) ⟨ift2, ift2, ?_⟩⟩)⟩⟩
    rw [eft, f1, f2]
    refine y_plan (q := 0) rfl (by omega) (Or.inl rfl) ?_
    exact y_329b (q := 1) (j := Zcu ss cl p) (by decide) hG.1 rfl hh z1 rfl (by omega) (by rw [zor_0]; exact zof_01 _ _) rfl (by omega) d1 d2 d6 d7 (br_f (by decide) k)
  refine nm_r (nI_1 s) (nm_r (nI_1 a) ⟨hi, br_t ek ⟨hi, nm_r ev (x_oe0 (by decide) hh hp48 rfl hpc hE (br_t rfl (br_t (by decide) (br_f (by decide) (br_f (by decide) (br_f (by decide) (br_t (by decide) (br_f (by decide) (br_f (by decide) (br_f (by decide) (br_t (by decide) (?_))))))))))))⟩⟩)
  unfold wX_execute_139 wpX_changePath
  refine x_opDX (j := 0) rfl rfl hh (by omega) (x_opDY (j := 0) rfl rfl hh (by omega) ?_)
  refine br_f (by decide) (br_t rfl ?_)
  unfold wX_changePath_25
  refine x_curPt hP hpc ⟨icu, nm_r (show _ = (ZDX mA mB oX (sv (h - 1 - 1)).toInt64 (sv (h - 1 - 0)).toInt64 + (px (Zcu ss cl p) - oX).toInt64) by rw [ecu]) ⟨icu, nm_r (show _ = (ZDX mA mB oY (sv (h - 1 - 0)).toInt64 (-(sv (h - 1 - 1)).toInt64) + (py (Zcu ss cl p) - oY).toInt64) by rw [ecu]) (br_f (by decide) (br_f (by decide) (br_f (by decide) (br_f (by decide) (br_f (by decide) (br_t rfl (?_)))))))⟩⟩
  unfold wX_changePath_112 wpX_lineTo
  refine x_lastClosed hP hpc ?_
  subst hpc
  by_cases hc : cl (Zft ss p) = 0
  · rw [if_pos hc]
    refine br_t rfl ?_
    refine pk_le (p + 1 + 1) 48 (fun q1 => x_off ?_) (fun q1 => ?_) (nI_1 (p + 1))
    · by_cases e : zof (ZDX mA mB oX (sv (h - 1 - 1)).toInt64 (sv (h - 1 - 0)).toInt64 + (px (Zcu ss cl p) - oX).toInt64) (ZDX mA mB oY (sv (h - 1 - 0)).toInt64 (-(sv (h - 1 - 1)).toInt64) + (py (Zcu ss cl p) - oY).toInt64) = 0
      · have hb := zof_0 e
        refine br_t e (br_t rfl ?_)
        unfold wX_lineTo_71
        refine x_append rfl (by omega) (x_153 (n := 2) (by decide) rfl z1 rfl (H 0 _ (nI t, 0, nI (h - 2), nI n, nI a + 1, 0, -1, nI (s + 1), nI c, nI (0 + 1), 0, 0, 0 ||| zof (ZDX mA mB oX (sv (h - 1 - 1)).toInt64 (sv (h - 1 - 0)).toInt64 + (px (Zcu ss cl p) - oX).toInt64) (ZDX mA mB oY (sv (h - 1 - 0)).toInt64 (-(sv (h - 1 - 1)).toInt64) + (py (Zcu ss cl p) - oY).toInt64), tk, tv, dg, sk, sv, vk, vv, hw, fr, og, lf, st, la, fm, fc, gr, wi, upd mn 0 (nI (p + 1 + 1)), zf qx (p + 1) (p + 1 + 1) (fun i => (upd nx 0 (ZDX mA mB oX (sv (h - 1 - 1)).toInt64 (sv (h - 1 - 0)).toInt64 + (px (Zcu ss cl p) - oX).toInt64).toInt32) (i - (p + 1))), zf qy (p + 1) (p + 1 + 1) (fun i => (upd ny 0 (ZDX mA mB oY (sv (h - 1 - 0)).toInt64 (-(sv (h - 1 - 1)).toInt64) + (py (Zcu ss cl p) - oY).toInt64).toInt32) (i - (p + 1))), zf ss (p + 1) (p + 1 + 1) (fun i => if (0 : Int32) ≠ 0 ∧ i = p + 1 then 1 else 0), zf cl (p + 1) (p + 1 + 1) (fun _ => 0), cp, upd nx 0 (ZDX mA mB oX (sv (h - 1 - 1)).toInt64 (sv (h - 1 - 0)).toInt64 + (px (Zcu ss cl p) - oX).toInt64).toInt32, upd ny 0 (ZDX mA mB oY (sv (h - 1 - 0)).toInt64 (-(sv (h - 1 - 1)).toInt64) + (py (Zcu ss cl p) - oY).toInt64).toInt32) (zs_ok ⟨hT, zst_le hS (by omega), hV, hF, hpn, zgs_path (q := p + 1 + 1) hG (zpt_extN hP hc (by omega) (fun k hk => ⟨pk_un (by omega), pk_un (by omega), pk_un (by omega), zf_lo hk, zf_lo hk, zf_lo hk, zf_lo hk⟩) (fun k h1 h2 => ?_) (fun k h1 h2 => ?_)), zsv_up hSV zr_i zr_i zr_i zr_i zr_u (fun i hi => zf_hi (by omega)) (fun i hi => zf_hi (by omega)) (fun i hi => zf_hi (by omega)) (fun i hi => zf_hi (by omega)) zr_i⟩ rfl (nI_1 a) rfl rfl rfl rfl rfl rfl) (fun PY hp => ?_)))
        · have ek : k = p + 1 := by omega
          subst ek
          rw [zf_in (by omega) (by omega), zf_in (by omega) (by omega), zf_in (by omega) (by omega), Nat.sub_self, pk_us, pk_us, pk_us, pk_us]
          exact ⟨rfl, rfl, rfl, hb.1, hb.2⟩
        · have ek : k = p + 1 := by omega
          subst ek
          rw [zf_in (by omega) (by omega), if_neg (fun z => z.1 rfl), pk_us]
          exact ⟨rfl, rfl⟩
        · refine ⟨hi, nm_r ev ⟨hi, nm_r ek (br_f (by decide) (br_f (by decide) (br_f (by decide) (br_t rfl ?_))))⟩⟩
          unfold wY_execute_245 wpY_operate
          refine y_check (by decide) hh hp48 (zst_k hS) rfl hmn (fun z => absurd hE z) (fun _ z => absurd z (by decide)) (fun _ _ _ => hYo hc _ (y_ckP (g := 0) rfl hh z1 hmn hp48 rfl (by omega) rfl (by omega) (by decide) (by decide) (by decide) (by decide) (by decide) (by decide) (by decide) (by decide) (by decide) (by decide) (by decide) (by decide) (by decide) (fun z => by omega) (fun _ z => absurd (by rw [zor_0]; exact e) z) (fun _ _ => br_t rfl ?_)))
          refine br_t (by decide) (br_t (by decide) (br_t (by decide) (br_t (by decide) (?_))))
          unfold wY_operate_71
          exact y_path (m := p + 1) (q := 1) (n := 2) (g := 0) (by decide) (by decide) rfl z1 rfl (by omega) (by omega) (Or.inl rfl) (by decide) rfl rfl hmn (by omega) (by omega) hp48 (fun z => absurd z (by decide)) (fun _ => br_f (by decide) (nm_e hp))
      · refine br_f e (x_153e (by decide) (H 5 _ (nI t, 0, nI h, nI n, nI a, 5, -1, nI (s + 1), nI c, nI (0 + 1), 0, 0, 0 ||| zof (ZDX mA mB oX (sv (h - 1 - 1)).toInt64 (sv (h - 1 - 0)).toInt64 + (px (Zcu ss cl p) - oX).toInt64) (ZDX mA mB oY (sv (h - 1 - 0)).toInt64 (-(sv (h - 1 - 1)).toInt64) + (py (Zcu ss cl p) - oY).toInt64), tk, tv, dg, sk, sv, vk, vv, hw, fr, og, lf, st, la, fm, fc, gr, wi, mn, qx, qy, ss, cl, cp, upd nx 0 (ZDX mA mB oX (sv (h - 1 - 1)).toInt64 (sv (h - 1 - 0)).toInt64 + (px (Zcu ss cl p) - oX).toInt64).toInt32, upd ny 0 (ZDX mA mB oY (sv (h - 1 - 0)).toInt64 (-(sv (h - 1 - 1)).toInt64) + (py (Zcu ss cl p) - oY).toInt64).toInt32) (zs_er hR' (by decide)) (fun PY hp => ?_)))
        refine ⟨hi, nm_r ev ⟨hi, nm_r ek (br_f (by decide) (br_f (by decide) (br_f (by decide) (br_t rfl ?_))))⟩⟩
        unfold wY_execute_245 wpY_operate
        refine y_check (by decide) hh hp48 (zst_k hS) rfl hmn (fun z => absurd hE z) (fun _ z => absurd z (by decide)) (fun _ _ _ => hYo hc _ (y_ckP (g := 0) rfl hh z1 hmn hp48 rfl (by omega) rfl (by omega) (by decide) (by decide) (by decide) (by decide) (by decide) (by decide) (by decide) (by decide) (by decide) (by decide) (by decide) (by decide) (by decide) (fun z => by omega) (fun _ _ => br_f (by decide) hp) (fun _ z => absurd (by rw [zor_0] at z; exact z) e)))
    · refine x_153e (by decide) (H 7 _ (nI t, 0, nI h, nI n, nI a, 7, -1, nI (s + 1), nI c, nI (0 + 1), 0, 0, 0 ||| zof (ZDX mA mB oX (sv (h - 1 - 1)).toInt64 (sv (h - 1 - 0)).toInt64 + (px (Zcu ss cl p) - oX).toInt64) (ZDX mA mB oY (sv (h - 1 - 0)).toInt64 (-(sv (h - 1 - 1)).toInt64) + (py (Zcu ss cl p) - oY).toInt64), tk, tv, dg, sk, sv, vk, vv, hw, fr, og, lf, st, la, fm, fc, gr, wi, mn, qx, qy, ss, cl, cp, upd nx 0 (ZDX mA mB oX (sv (h - 1 - 1)).toInt64 (sv (h - 1 - 0)).toInt64 + (px (Zcu ss cl p) - oX).toInt64).toInt32, upd ny 0 (ZDX mA mB oY (sv (h - 1 - 0)).toInt64 (-(sv (h - 1 - 1)).toInt64) + (py (Zcu ss cl p) - oY).toInt64).toInt32) (zs_er hR' (by decide)) (fun PY hp => ?_))
      refine ⟨hi, nm_r ev ⟨hi, nm_r ek (br_f (by decide) (br_f (by decide) (br_f (by decide) (br_t rfl ?_))))⟩⟩
      unfold wY_execute_245 wpY_operate
      refine y_check (by decide) hh hp48 (zst_k hS) rfl hmn (fun z => absurd hE z) (fun _ z => absurd z (by decide)) (fun _ _ _ => hYo hc _ (y_ckP (g := 0) rfl hh z1 hmn hp48 rfl (by omega) rfl (by omega) (by decide) (by decide) (by decide) (by decide) (by decide) (by decide) (by decide) (by decide) (by decide) (by decide) (by decide) (by decide) (by decide) (fun _ => br_f (by decide) hp) (fun z => by omega) (fun z => by omega)))
  · rw [if_neg hc]
    refine br_f (by decide) ?_
    refine pk_le (p + 1 + 2) 48 (fun q1 => x_off ?_) (fun q1 => ?_) (nI_add (p + 1) 2)
    · by_cases e : zof (ZDX mA mB oX (sv (h - 1 - 1)).toInt64 (sv (h - 1 - 0)).toInt64 + (px (Zcu ss cl p) - oX).toInt64) (ZDX mA mB oY (sv (h - 1 - 0)).toInt64 (-(sv (h - 1 - 1)).toInt64) + (py (Zcu ss cl p) - oY).toInt64) = 0
      · have hb := zof_0 e
        refine br_t e (br_f (by decide) (x_lastSub hP rfl ⟨ift, ift, ?_⟩))
        rw [eft]
        unfold wX_lineTo_71
        refine x_append rfl (by omega) (x_append rfl (by omega) (x_153 (n := 2) (by decide) rfl z1 rfl (H 0 _ (nI t, 0, nI (h - 2), nI n, nI a + 1, 0, -1, nI (s + 1), nI c, nI (1 + 1), 0, 1, (0 ||| zof (px (Zft ss p)).toInt64 (py (Zft ss p)).toInt64) ||| zof (ZDX mA mB oX (sv (h - 1 - 1)).toInt64 (sv (h - 1 - 0)).toInt64 + (px (Zcu ss cl p) - oX).toInt64) (ZDX mA mB oY (sv (h - 1 - 0)).toInt64 (-(sv (h - 1 - 1)).toInt64) + (py (Zcu ss cl p) - oY).toInt64), tk, tv, dg, sk, sv, vk, vv, hw, fr, og, lf, st, la, fm, fc, gr, wi, upd mn 0 (nI (p + 1 + 2)), zf qx (p + 1) (p + 1 + 2) (fun i => (upd (upd nx 0 ((px (Zft ss p)).toInt64).toInt32) 1 (ZDX mA mB oX (sv (h - 1 - 1)).toInt64 (sv (h - 1 - 0)).toInt64 + (px (Zcu ss cl p) - oX).toInt64).toInt32) (i - (p + 1))), zf qy (p + 1) (p + 1 + 2) (fun i => (upd (upd ny 0 ((py (Zft ss p)).toInt64).toInt32) 1 (ZDX mA mB oY (sv (h - 1 - 0)).toInt64 (-(sv (h - 1 - 1)).toInt64) + (py (Zcu ss cl p) - oY).toInt64).toInt32) (i - (p + 1))), zf ss (p + 1) (p + 1 + 2) (fun i => if (1 : Int32) ≠ 0 ∧ i = p + 1 then 1 else 0), zf cl (p + 1) (p + 1 + 2) (fun _ => 0), cp, upd (upd nx 0 ((px (Zft ss p)).toInt64).toInt32) 1 (ZDX mA mB oX (sv (h - 1 - 1)).toInt64 (sv (h - 1 - 0)).toInt64 + (px (Zcu ss cl p) - oX).toInt64).toInt32, upd (upd ny 0 ((py (Zft ss p)).toInt64).toInt32) 1 (ZDX mA mB oY (sv (h - 1 - 0)).toInt64 (-(sv (h - 1 - 1)).toInt64) + (py (Zcu ss cl p) - oY).toInt64).toInt32) (zs_ok ⟨hT, zst_le hS (by omega), hV, hF, hpn, zgs_path (q := p + 1 + 2) hG (zpt_extB hP (by omega) (by omega) (fun k hk => ⟨by rw [pk_un (by omega), pk_un (by omega)], by rw [pk_un (by omega), pk_un (by omega)], by rw [pk_un (by omega), pk_un (by omega)], zf_lo hk, zf_lo hk, zf_lo hk, zf_lo hk⟩) (fun k h1 h2 => ?_) ?_ ?_ (fun k h1 h2 => ?_)), zsv_up hSV zr_i zr_i zr_i zr_i zr_u (fun i hi => zf_hi (by omega)) (fun i hi => zf_hi (by omega)) (fun i hi => zf_hi (by omega)) (fun i hi => zf_hi (by omega)) zr_i⟩ rfl (nI_1 a) rfl rfl rfl rfl rfl rfl) (fun PY hp => ?_))))
        · rw [zf_in (by omega) (by omega), zf_in (by omega) (by omega), zf_in (by omega) (by omega)]
          by_cases ek : k = p + 1
          · subst ek
            rw [Nat.sub_self, pk_un (by omega), pk_us, pk_un (by omega), pk_us, pk_un (by omega), pk_us, pk_un (by omega), pk_us, Int32.toInt32_toInt64, Int32.toInt32_toInt64]
            exact ⟨rfl, rfl, rfl, f6, f7⟩
          · have ek : k = p + 1 + 1 := by omega
            subst ek
            rw [show p + 1 + 1 - (p + 1) = 1 by omega, pk_us, pk_us, pk_us, pk_us]
            exact ⟨rfl, rfl, rfl, hb.1, hb.2⟩
        · rw [zf_in (by omega) (by omega), if_pos ⟨by decide, rfl⟩]
        · rw [pk_un (by omega), pk_us]
        · have ek : k = p + 1 + 1 := by omega
          subst ek
          rw [zf_in (by omega) (by omega), if_neg (fun z => by omega), pk_us]
          exact ⟨rfl, rfl⟩
        · refine ⟨hi, nm_r ev ⟨hi, nm_r ek (br_f (by decide) (br_f (by decide) (br_f (by decide) (br_t rfl ?_))))⟩⟩
          unfold wY_execute_245 wpY_operate
          refine y_check (by decide) hh hp48 (zst_k hS) rfl hmn (fun z => absurd hE z) (fun _ z => absurd z (by decide)) (fun _ _ _ => hYc hc _ (y_ckP (g := 0) rfl hh z1 hmn hp48 rfl (by omega) rfl (by omega) (by decide) (by decide) (by decide) (by decide) (by decide) (by decide) (by decide) (by decide) (by decide) (by decide) (by decide) (by decide) (by decide) (fun z => by omega) (fun _ z => absurd (by rw [zor_0, hz0, zor_0]; exact e) z) (fun _ _ => br_t rfl ?_)))
          refine br_t (by decide) (br_t (by decide) (br_t (by decide) (br_t (by decide) (?_))))
          unfold wY_operate_71
          exact y_path (m := p + 1) (q := 2) (n := 2) (g := 0) (by decide) (by decide) rfl z1 rfl (by omega) (by omega) (Or.inr rfl) (by decide) rfl rfl hmn (by omega) (by omega) hp48 (fun z => absurd z (by decide)) (fun _ => br_f (by decide) (nm_e hp))
      · refine br_f e (x_153e (by decide) (H 5 _ (nI t, 0, nI h, nI n, nI a, 5, -1, nI (s + 1), nI c, nI (1 + 1), 0, 1, (0 ||| zof (px (Zft ss p)).toInt64 (py (Zft ss p)).toInt64) ||| zof (ZDX mA mB oX (sv (h - 1 - 1)).toInt64 (sv (h - 1 - 0)).toInt64 + (px (Zcu ss cl p) - oX).toInt64) (ZDX mA mB oY (sv (h - 1 - 0)).toInt64 (-(sv (h - 1 - 1)).toInt64) + (py (Zcu ss cl p) - oY).toInt64), tk, tv, dg, sk, sv, vk, vv, hw, fr, og, lf, st, la, fm, fc, gr, wi, mn, qx, qy, ss, cl, cp, upd (upd nx 0 ((px (Zft ss p)).toInt64).toInt32) 1 (ZDX mA mB oX (sv (h - 1 - 1)).toInt64 (sv (h - 1 - 0)).toInt64 + (px (Zcu ss cl p) - oX).toInt64).toInt32, upd (upd ny 0 ((py (Zft ss p)).toInt64).toInt32) 1 (ZDX mA mB oY (sv (h - 1 - 0)).toInt64 (-(sv (h - 1 - 1)).toInt64) + (py (Zcu ss cl p) - oY).toInt64).toInt32) (zs_er hR' (by decide)) (fun PY hp => ?_)))
        refine ⟨hi, nm_r ev ⟨hi, nm_r ek (br_f (by decide) (br_f (by decide) (br_f (by decide) (br_t rfl ?_))))⟩⟩
        unfold wY_execute_245 wpY_operate
        refine y_check (by decide) hh hp48 (zst_k hS) rfl hmn (fun z => absurd hE z) (fun _ z => absurd z (by decide)) (fun _ _ _ => hYc hc _ (y_ckP (g := 0) rfl hh z1 hmn hp48 rfl (by omega) rfl (by omega) (by decide) (by decide) (by decide) (by decide) (by decide) (by decide) (by decide) (by decide) (by decide) (by decide) (by decide) (by decide) (by decide) (fun z => by omega) (fun _ _ => br_f (by decide) hp) (fun _ z => absurd (by rw [zor_0, hz0, zor_0] at z; exact z) e)))
    · refine x_153e (by decide) (H 7 _ (nI t, 0, nI h, nI n, nI a, 7, -1, nI (s + 1), nI c, nI (1 + 1), 0, 1, (0 ||| zof (px (Zft ss p)).toInt64 (py (Zft ss p)).toInt64) ||| zof (ZDX mA mB oX (sv (h - 1 - 1)).toInt64 (sv (h - 1 - 0)).toInt64 + (px (Zcu ss cl p) - oX).toInt64) (ZDX mA mB oY (sv (h - 1 - 0)).toInt64 (-(sv (h - 1 - 1)).toInt64) + (py (Zcu ss cl p) - oY).toInt64), tk, tv, dg, sk, sv, vk, vv, hw, fr, og, lf, st, la, fm, fc, gr, wi, mn, qx, qy, ss, cl, cp, upd (upd nx 0 ((px (Zft ss p)).toInt64).toInt32) 1 (ZDX mA mB oX (sv (h - 1 - 1)).toInt64 (sv (h - 1 - 0)).toInt64 + (px (Zcu ss cl p) - oX).toInt64).toInt32, upd (upd ny 0 ((py (Zft ss p)).toInt64).toInt32) 1 (ZDX mA mB oY (sv (h - 1 - 0)).toInt64 (-(sv (h - 1 - 1)).toInt64) + (py (Zcu ss cl p) - oY).toInt64).toInt32) (zs_er hR' (by decide)) (fun PY hp => ?_))
      refine ⟨hi, nm_r ev ⟨hi, nm_r ek (br_f (by decide) (br_f (by decide) (br_f (by decide) (br_t rfl ?_))))⟩⟩
      unfold wY_execute_245 wpY_operate
      refine y_check (by decide) hh hp48 (zst_k hS) rfl hmn (fun z => absurd hE z) (fun _ z => absurd z (by decide)) (fun _ _ _ => hYc hc _ (y_ckP (g := 0) rfl hh z1 hmn hp48 rfl (by omega) rfl (by omega) (by decide) (by decide) (by decide) (by decide) (by decide) (by decide) (by decide) (by decide) (by decide) (by decide) (by decide) (by decide) (by decide) (fun _ => br_f (by decide) hp) (fun z => by omega) (fun z => by omega)))
end
end
section
section
variable {tc ob ps su ep sd bc mA mB oX oY gY wD pC sC yt yo yh yi ya ye yp ys yc nw gn bg wd : Int32} {tk tv cb sk sv vk vv bp br bh bn bs bl px py pm cr sn sx sy sm sp dg hw fr og lf st la fm fc gr wi mn qx qy ss cl cp nx ny : Nat → Int32}
def zcv (k : Int32) (p a b c : Int64) : Int64 := (((((((8 - k) * (8 - k)) * (8 - k)).toInt64 * p) + (((((3 * k) * (8 - k)) * (8 - k)).toInt64) * a)) + (((((3 * k) * k) * (8 - k)).toInt64) * b)) + ((((k * k) * k).toInt64) * c) + 256) >>> ((9 : Int32).toInt64 &&& 63)
theorem x_curveAt {post : Int64 → Prop} {k : Int32} {p a b c : Int64} (kk : post (zcv k p a b c)) : wpX_curveAt post k p a b c := nm_e (nm_e kk)
theorem y_curve {post : Int64 → Prop} {j : Nat} {p a b c : Int64} (hj : j < 9) (kk : post (zcv (nI j) p a b c)) : wpY_curve post (nI j) p a b c := by
  have c0 := (by decide +kernel : ∀ j, j < 9 → (((8 - nI j) * (8 - nI j)) * (8 - nI j)).toInt64 = ((8 - nI j).toInt64 * (8 - nI j).toInt64) * (8 - nI j).toInt64) j hj
  have c1 := (by decide +kernel : ∀ j, j < 9 → (((3 * nI j) * (8 - nI j)) * (8 - nI j)).toInt64 = ((3 * nI j).toInt64 * (8 - nI j).toInt64) * (8 - nI j).toInt64) j hj
  have c2 := (by decide +kernel : ∀ j, j < 9 → (((3 * nI j) * nI j) * (8 - nI j)).toInt64 = ((3 * (nI j).toInt64) * (nI j).toInt64) * (8 - nI j).toInt64) j hj
  have c3 := (by decide +kernel : ∀ j, j < 9 → ((nI j * nI j) * nI j).toInt64 = ((nI j).toInt64 * (nI j).toInt64) * (nI j).toInt64) j hj
  unfold zcv at kk
  rw [c0, c1, c2, c3] at kk
  exact nm_e (nm_e kk)
def Zs6 (x : Int64) : Prop := -200 ≤ x.toInt ∧ x.toInt ≤ 200
theorem zs6_mul {w p : Int64} (h0 : 0 ≤ w.toInt) (h1 : w.toInt ≤ 512) (hp : Zs6 p) : ∃ m : Int, (w * p).toInt = m ∧ -(200 * w.toInt) ≤ m ∧ m ≤ 200 * w.toInt := by
  obtain ⟨p1, p2⟩ := hp
  have m1 : w.toInt * p.toInt ≤ w.toInt * 200 := Int.mul_le_mul_of_nonneg_left p2 h0
  have m2 : w.toInt * (-200) ≤ w.toInt * p.toInt := Int.mul_le_mul_of_nonneg_left p1 h0
  refine ⟨w.toInt * p.toInt, ?_, by omega, by omega⟩
  rw [Int64.toInt_mul]
  generalize w.toInt * p.toInt = m at *
  exact Int.bmod_eq_of_le (by omega) (by omega)
theorem zs6_shr (x : Int64) : (x >>> ((9 : Int32).toInt64 &&& 63)).toInt = x.toInt / 512 := by
  show (x.toBitVec.sshiftRight (((9 : Int32).toInt64 &&& 63).toBitVec.smod 64).toNat).toInt = _
  rw [show (((9 : Int32).toInt64 &&& 63).toBitVec.smod 64).toNat = 9 by decide, BitVec.toInt_sshiftRight, Int.shiftRight_eq_div_pow]
  rfl
theorem zcv_b {j : Nat} {p a b c : Int64} (hj : j < 9) (hp : Zs6 p) (ha : Zs6 a) (hb : Zs6 b) (hc : Zs6 c) : Zs6 (zcv (nI j) p a b c) := by
  have hw := (by decide +kernel : ∀ j, j < 9 → (0 ≤ ((((8 - nI j) * (8 - nI j)) * (8 - nI j)).toInt64).toInt ∧ 0 ≤ ((((3 * nI j) * (8 - nI j)) * (8 - nI j)).toInt64).toInt ∧ 0 ≤ ((((3 * nI j) * nI j) * (8 - nI j)).toInt64).toInt ∧ 0 ≤ (((nI j * nI j) * nI j).toInt64).toInt ∧ ((((8 - nI j) * (8 - nI j)) * (8 - nI j)).toInt64).toInt + ((((3 * nI j) * (8 - nI j)) * (8 - nI j)).toInt64).toInt + ((((3 * nI j) * nI j) * (8 - nI j)).toInt64).toInt + (((nI j * nI j) * nI j).toInt64).toInt = 512)) j hj
  obtain ⟨w0, w1, w2, w3, ws⟩ := hw
  unfold Zs6 zcv
  rw [zs6_shr]
  generalize (((8 - nI j) * (8 - nI j)) * (8 - nI j)).toInt64 = W0 at *
  generalize (((3 * nI j) * (8 - nI j)) * (8 - nI j)).toInt64 = W1 at *
  generalize (((3 * nI j) * nI j) * (8 - nI j)).toInt64 = W2 at *
  generalize ((nI j * nI j) * nI j).toInt64 = W3 at *
  obtain ⟨m0, e0, l0, u0⟩ := zs6_mul w0 (by omega) hp
  obtain ⟨m1, e1, l1, u1⟩ := zs6_mul w1 (by omega) ha
  obtain ⟨m2, e2, l2, u2⟩ := zs6_mul w2 (by omega) hb
  obtain ⟨m3, e3, l3, u3⟩ := zs6_mul w3 (by omega) hc
  have s1 : (W0 * p + W1 * a).toInt = m0 + m1 := by
    rw [Int64.toInt_add, e0, e1]
    exact Int.bmod_eq_of_le (by omega) (by omega)
  have s2 : (W0 * p + W1 * a + W2 * b).toInt = m0 + m1 + m2 := by
    rw [Int64.toInt_add, s1, e2]
    exact Int.bmod_eq_of_le (by omega) (by omega)
  have s3 : (W0 * p + W1 * a + W2 * b + W3 * c).toInt = m0 + m1 + m2 + m3 := by
    rw [Int64.toInt_add, s2, e3]
    exact Int.bmod_eq_of_le (by omega) (by omega)
  have s4 : (W0 * p + W1 * a + W2 * b + W3 * c + 256).toInt = m0 + m1 + m2 + m3 + 256 := by
    rw [Int64.toInt_add, s3, show (256 : Int64).toInt = 256 by decide]
    exact Int.bmod_eq_of_le (by omega) (by omega)
  rw [s4]
  omega
theorem zs6_of {x y : Int64} (h : zof x y = 0) : Zs6 x ∧ Zs6 y := by
  unfold zof at h
  have m2 : (-200 : Int64).toInt = -200 := by decide
  have p2 : (200 : Int64).toInt = 200 := by decide
  by_cases q1 : x < -200
  · rw [if_pos q1] at h; exact absurd h (by decide)
  · rw [if_neg q1] at h
    by_cases q2 : 200 < x
    · rw [if_pos q2] at h; exact absurd h (by decide)
    · rw [if_neg q2] at h
      by_cases q3 : y < -200
      · rw [if_pos q3] at h; exact absurd h (by decide)
      · rw [if_neg q3] at h
        by_cases q4 : y ≤ 200
        · rw [z64_lt, m2] at q1 q3
          rw [z64_lt, p2] at q2
          rw [z64_le, p2] at q4
          exact ⟨⟨by omega, by omega⟩, by omega, by omega⟩
        · rw [if_neg q4] at h; exact absurd h (by decide)
theorem zof_s6 {x y : Int64} (hx : Zs6 x) (hy : Zs6 y) : zof x y = 0 := by
  obtain ⟨a1, a2⟩ := hx
  obtain ⟨b1, b2⟩ := hy
  have m2 : (-200 : Int64).toInt = -200 := by decide
  have p2 : (200 : Int64).toInt = 200 := by decide
  unfold zof
  rw [if_neg (by rw [z64_lt, m2]; omega), if_neg (by rw [z64_lt, p2]; omega), if_neg (by rw [z64_lt, m2]; omega), if_pos (by rw [z64_le, p2]; omega)]
theorem zs6_32 {x : Int32} (h : Zsm x) : Zs6 x.toInt64 := by
  unfold Zs6
  rw [z64_i]
  exact h
/-- the curve's points, counted from s -/
def zcg (s : Nat) (p a b c : Int64) (i : Nat) : Int32 := (zcv (nI (i - s + 1)) p a b c).toInt32
theorem x_cv_l {post : Int32 → SX → Prop} {s : Nat} {x2 x4 x6 x8 x10 x12 : Int64} {x15 x16 : Int32} (h48 : s + 8 ≤ 48) (K : post 0 (tc, ob, ps, su, ep, sd, bc, mA, mB, oX, oY, gY, wD, nI (s + 8), sC, tk, tv, cb, sk, sv, vk, vv, bp, br, bh, bn, bs, bl, zf px s (s + 8) (zcg s x15.toInt64 x2 x6 x10), zf py s (s + 8) (zcg s x16.toInt64 x4 x8 x12), zf pm s (s + 8) (fun _ => 0), cr, sn, sx, sy, sm, sp, dg)) :
    ∀ d j, j + d = 8 → wX_curveTo_144 post x2 x4 x6 x8 x10 x12 x15 x16 (d + 1) (nI (j + 1)) tc ob ps su ep sd bc mA mB oX oY gY wD (nI (s + j)) sC tk tv cb sk sv vk vv bp br bh bn bs bl (zf px s (s + j) (zcg s x15.toInt64 x2 x6 x10)) (zf py s (s + j) (zcg s x16.toInt64 x4 x8 x12)) (zf pm s (s + j) (fun _ => 0)) cr sn sx sy sm sp dg := by
  intro d
  induction d with
  | zero =>
    intro j hj
    have : j = 8 := by omega
    subst this
    exact qs_t 8 (8 + 1) (by omega) K
  | succ d ih =>
    intro j hj
    have stp : ∀ f g : Nat → Int32, upd (zf f s (s + j) g) (s + j) (g (s + j)) = zf f s (s + (j + 1)) g := fun f g => by
      rw [show s + (j + 1) = s + j + 1 by omega]
      exact zf_e (by omega)
    have e1 : zcg s x15.toInt64 x2 x6 x10 (s + j) = (zcv (nI (j + 1)) x15.toInt64 x2 x6 x10).toInt32 := by
      unfold zcg
      rw [show s + j - s + 1 = j + 1 by omega]
    have e2 : zcg s x16.toInt64 x4 x8 x12 (s + j) = (zcv (nI (j + 1)) x16.toInt64 x4 x8 x12).toInt32 := by
      unfold zcg
      rw [show s + j - s + 1 = j + 1 by omega]
    refine qs_f 8 (j + 1) (by omega) (x_curveAt (x_curveAt (x_append rfl (by omega) ?_)))
    rw [← e1, ← e2, stp, stp, stp pm (fun _ => 0)]
    exact nm_r (nI_1 (j + 1)) (ih (j + 1) (by omega))
theorem y_bd_l {post : SY → Prop} {s : Nat} {x3 x5 x7 x9 x11 x13 : Int64} {x1 x2 : Int32} (h9 : s ≤ 1) (p1 : Zsm x1) (p2 : Zsm x2) (a1 : Zs6 x3) (a2 : Zs6 x5) (b1 : Zs6 x7) (b2 : Zs6 x9) (c1 : Zs6 x11) (c2 : Zs6 x13) (K : post (yt, yo, yh, yi, ya, ye, yp, ys, yc, nI (s + 8), gn, bg, 0, tk, tv, dg, sk, sv, vk, vv, hw, fr, og, lf, st, la, fm, fc, gr, wi, mn, qx, qy, ss, cl, cp, zf nx s (s + 8) (zcg s x1.toInt64 x3 x7 x11), zf ny s (s + 8) (zcg s x2.toInt64 x5 x9 x13))) :
    ∀ d j, j + d = 8 → wY_bend_148 post x1 x2 x3 x5 x7 x9 x11 x13 (d + 1) (nI (j + 1)) yt yo yh yi ya ye yp ys yc (nI (s + j)) gn bg 0 tk tv dg sk sv vk vv hw fr og lf st la fm fc gr wi mn qx qy ss cl cp (zf nx s (s + j) (zcg s x1.toInt64 x3 x7 x11)) (zf ny s (s + j) (zcg s x2.toInt64 x5 x9 x13)) := by
  intro d
  induction d with
  | zero =>
    intro j hj
    have : j = 8 := by omega
    subst this
    exact qs_t 8 (8 + 1) (by omega) K
  | succ d ih =>
    intro j hj
    have stp : ∀ f g : Nat → Int32, upd (zf f s (s + j) g) (s + j) (g (s + j)) = zf f s (s + (j + 1)) g := fun f g => by
      rw [show s + (j + 1) = s + j + 1 by omega]
      exact zf_e (by omega)
    have e1 : zcg s x1.toInt64 x3 x7 x11 (s + j) = (zcv (nI (j + 1)) x1.toInt64 x3 x7 x11).toInt32 := by
      unfold zcg
      rw [show s + j - s + 1 = j + 1 by omega]
    have e2 : zcg s x2.toInt64 x5 x9 x13 (s + j) = (zcv (nI (j + 1)) x2.toInt64 x5 x9 x13).toInt32 := by
      unfold zcg
      rw [show s + j - s + 1 = j + 1 by omega]
    have ez : zof (zcv (nI (j + 1)) x1.toInt64 x3 x7 x11) (zcv (nI (j + 1)) x2.toInt64 x5 x9 x13) = 0 := zof_s6 (zcv_b (by omega) (zs6_32 p1) a1 b1 c1) (zcv_b (by omega) (zs6_32 p2) a2 b2 c2)
    refine qs_f 8 (j + 1) (by omega) (br_t rfl (y_curve (by omega) (y_curve (by omega) (y_plan rfl (by omega) (Or.inl rfl) ?_))))
    rw [← e1, ← e2, stp, stp, ez, zor_0]
    exact nm_r (nI_1 (j + 1)) (ih (j + 1) (by omega))
theorem y_ckZ {post : Int32 → SY → Prop} {op : Int32} {h z n : Nat} (hs : yh = nI h) (hh : h ≤ 24) (hn : n ≤ h) (hz : z < 1000) (h21 : op ≠ 21) (h24 : op ≠ 24) (h26 : op ≠ 26) (h27 : op ≠ 27) (h11 : op ≠ 11) (h18 : op ≠ 18) (h20 : op ≠ 20)
    (k7 : 48 < z → post 7 (yt, yo, yh, yi, ya, ye, yp, ys, yc, nw, gn, bg, wd, tk, tv, dg, sk, sv, vk, vv, hw, fr, og, lf, st, la, fm, fc, gr, wi, mn, qx, qy, ss, cl, cp, nx, ny)) (k5 : z ≤ 48 → post 5 (yt, yo, yh, yi, ya, ye, yp, ys, yc, nw, gn, bg, wd, tk, tv, dg, sk, sv, vk, vv, hw, fr, og, lf, st, la, fm, fc, gr, wi, mn, qx, qy, ss, cl, cp, nx, ny)) (hwd : wd ≠ 0) : wY_check_155 post op (nI n) (nI z) yt yo yh yi ya ye yp ys yc nw gn bg wd tk tv dg sk sv vk vv hw fr og lf st la fm fc gr wi mn qx qy ss cl cp nx ny := by
  refine pk_lt 48 z (fun q1 => k7 q1) (fun q1 => br_f h21 ?_)
  have go : ∀ x, wY_check_192 post op x yt yo yh yi ya ye yp ys yc nw gn bg wd tk tv dg sk sv vk vv hw fr og lf st la fm fc gr wi mn qx qy ss cl cp nx ny := fun x => br_f h24 (br_f h26 (br_f h27 (br_f h11 (br_f h18 (br_f h24 (br_f hwd (k5 q1)))))))
  exact pk_le n 0 (fun _ => go 0) (fun h1 => y_top (j := 0) hs rfl hh (by omega) (go _))
/-- bend, whatever it finds -/
theorem y_bend {post : SY → Prop} {x1 x2 : Int32} {h s : Nat} {Fk : Int32} (hg : ZGR mA mB oX oY fm Fk) (hs : yh = nI h) (hh : h ≤ 24) (h6 : 6 ≤ h) (hnw : nw = nI s) (h9 : s ≤ 1) (p1 : Zsm x1) (p2 : Zsm x2)
    (kw : ¬ (zof (ZDX mA mB oX (sv (h - 1 - (4 + 1))).toInt64 (sv (h - 1 - 4)).toInt64) (ZDX mA mB oY (sv (h - 1 - 4)).toInt64 (-(sv (h - 1 - (4 + 1))).toInt64)) = 0 ∧ zof (ZDX mA mB oX (sv (h - 1 - (2 + 1))).toInt64 (sv (h - 1 - 2)).toInt64) (ZDX mA mB oY (sv (h - 1 - 2)).toInt64 (-(sv (h - 1 - (2 + 1))).toInt64)) = 0 ∧ zof (ZDX mA mB oX (sv (h - 1 - (0 + 1))).toInt64 (sv (h - 1 - 0)).toInt64) (ZDX mA mB oY (sv (h - 1 - 0)).toInt64 (-(sv (h - 1 - (0 + 1))).toInt64)) = 0) → post (yt, yo, yh, yi, ya, ye, yp, ys, yc, nw, gn, bg, 1, tk, tv, dg, sk, sv, vk, vv, hw, fr, og, lf, st, la, fm, fc, gr, wi, mn, qx, qy, ss, cl, cp, nx, ny))
    (k0 : zof (ZDX mA mB oX (sv (h - 1 - (4 + 1))).toInt64 (sv (h - 1 - 4)).toInt64) (ZDX mA mB oY (sv (h - 1 - 4)).toInt64 (-(sv (h - 1 - (4 + 1))).toInt64)) = 0 → zof (ZDX mA mB oX (sv (h - 1 - (2 + 1))).toInt64 (sv (h - 1 - 2)).toInt64) (ZDX mA mB oY (sv (h - 1 - 2)).toInt64 (-(sv (h - 1 - (2 + 1))).toInt64)) = 0 → zof (ZDX mA mB oX (sv (h - 1 - (0 + 1))).toInt64 (sv (h - 1 - 0)).toInt64) (ZDX mA mB oY (sv (h - 1 - 0)).toInt64 (-(sv (h - 1 - (0 + 1))).toInt64)) = 0 → post (yt, yo, yh, yi, ya, ye, yp, ys, yc, nI (s + 8), gn, bg, 0, tk, tv, dg, sk, sv, vk, vv, hw, fr, og, lf, st, la, fm, fc, gr, wi, mn, qx, qy, ss, cl, cp, zf nx s (s + 8) (zcg s x1.toInt64 (ZDX mA mB oX (sv (h - 1 - (4 + 1))).toInt64 (sv (h - 1 - 4)).toInt64) (ZDX mA mB oX (sv (h - 1 - (2 + 1))).toInt64 (sv (h - 1 - 2)).toInt64) (ZDX mA mB oX (sv (h - 1 - (0 + 1))).toInt64 (sv (h - 1 - 0)).toInt64)), zf ny s (s + 8) (zcg s x2.toInt64 (ZDX mA mB oY (sv (h - 1 - 4)).toInt64 (-(sv (h - 1 - (4 + 1))).toInt64)) (ZDX mA mB oY (sv (h - 1 - 2)).toInt64 (-(sv (h - 1 - (2 + 1))).toInt64)) (ZDX mA mB oY (sv (h - 1 - 0)).toInt64 (-(sv (h - 1 - (0 + 1))).toInt64))))) : wpY_bend post (yt, yo, yh, yi, ya, ye, yp, ys, yc, nw, gn, bg, wd, tk, tv, dg, sk, sv, vk, vv, hw, fr, og, lf, st, la, fm, fc, gr, wi, mn, qx, qy, ss, cl, cp, nx, ny) x1 x2 := by
  unfold wpY_bend
  have tt : ∀ (j : Nat) (P : Int32 → Prop), j < h → P (sv (h - 1 - j)) → wpY_top P (yt, yo, yh, yi, ya, ye, yp, ys, yc, nw, gn, bg, wd, tk, tv, dg, sk, sv, vk, vv, hw, fr, og, lf, st, la, fm, fc, gr, wi, mn, qx, qy, ss, cl, cp, nx, ny) (nI j) := fun j P hj k => y_top (j := j) hs rfl hh hj k
  refine tt 5 _ (by omega) (tt 4 _ (by omega) (y_deviceX hg (tt 5 _ (by omega) (tt 4 _ (by omega) (y_deviceY hg (tt 3 _ (by omega) (tt 2 _ (by omega) (y_deviceX hg (tt 3 _ (by omega) (tt 2 _ (by omega) (y_deviceY hg (tt 1 _ (by omega) (tt 0 _ (by omega) (y_deviceX hg (tt 1 _ (by omega) (tt 0 _ (by omega) (y_deviceY hg (y_out ?_))))))))))))))))))
  have wide : ∀ x3 x5 x7 x9 x11 x13 : Int64, post (yt, yo, yh, yi, ya, ye, yp, ys, yc, nw, gn, bg, 1, tk, tv, dg, sk, sv, vk, vv, hw, fr, og, lf, st, la, fm, fc, gr, wi, mn, qx, qy, ss, cl, cp, nx, ny) → ∃ q, wY_bend_148 post x1 x2 x3 x5 x7 x9 x11 x13 q 1 yt yo yh yi ya ye yp ys yc nw gn bg 1 tk tv dg sk sv vk vv hw fr og lf st la fm fc gr wi mn qx qy ss cl cp nx ny := fun _ _ _ _ _ _ k => ⟨1, br_f (by decide) (br_f (by decide) k)⟩
  refine br_c (fun q1 => y_out (br_c (fun q2 => y_out (br_c (fun q3 => ?_) (fun q3 => wide _ _ _ _ _ _ (kw (fun z => q3 z.2.2))))) (fun q2 => wide _ _ _ _ _ _ (kw (fun z => q2 z.2.1))))) (fun q1 => wide _ _ _ _ _ _ (kw (fun z => q1 z.1)))
  have a := zs6_of q1
  have b := zs6_of q2
  have c := zs6_of q3
  subst hnw
  have L := y_bd_l (s := s) h9 p1 p2 a.1 a.2 b.1 b.2 c.1 c.2 (k0 q1 q2 q3) 8 0 rfl
  rw [Nat.add_zero s, zf_z, zf_z] at L
  exact ⟨9, L⟩
theorem st_curveto {t h n a c s pc : Nat} {PX : Int32 → SX → Prop} (hR : ZR t h n a c mA mB oX oY gY wD pC tk tv cb sk sv vk vv bp br bh bn bs bl px py pm cr sn sx sy sm sp hw fr og lf st la fm fc gr wi mn qx qy ss cl cp) (ha : a < t) (hk : tk a = 1) (hv : tv a = nI 33) (hpc : pC = nI pc) (hp48 : pc ≤ 48) (hE : ZE1 33 h sk pc = 0)
    (H : ∀ (e : Int32) (u' : SX) (v' : SY), ZStep a (s + 1) e u' v' → (∀ PY : SY → Prop, PY v' → wpY_execute PY (nI t, 0, nI h, nI n, nI a, 0, -1, nI (s + 1), nI c, nw, gn, bg, wd, tk, tv, dg, sk, sv, vk, vv, hw, fr, og, lf, st, la, fm, fc, gr, wi, mn, qx, qy, ss, cl, cp, nx, ny)) → PX e u') : wpX_execute PX (nI t, 0, nI a, nI s, -1, nI h, nI n, mA, mB, oX, oY, gY, wD, pC, nI c, tk, tv, cb, sk, sv, vk, vv, bp, br, bh, bn, bs, bl, px, py, pm, cr, sn, sx, sy, sm, sp, dg) (nI a) := by
  have hR' := hR
  obtain ⟨hT, hS, hV, hF, hPO, hG, hSV⟩ := hR
  have ht := hT.1
  have hh := hS.1
  have hmn := zg_mn hG hpc
  have hi : vp_in (nI a) 100 := vp_in_nI (by omega) (by omega)
  have e : (nI a).toNatClampNeg = a := zc_i (by omega)
  have ek : tk (nI a).toNatClampNeg = 1 := by rw [e]; exact hk
  have ev : tv (nI a).toNatClampNeg = nI 33 := by rw [e]; exact hv
  have hpn := po_next hPO ha (by rw [hk]; decide) (by rw [hk]; decide)
  obtain ⟨z1, z2, z3, z4⟩ := ze_0 hE
  have z1 : 6 ≤ h := z1
  have hP := zg_pt hG hpc hp48
  have hpc0 : 0 < pc := z3 (by decide) (by decide)
  obtain ⟨p, rfl⟩ : ∃ p, pc = p + 1 := ⟨pc - 1, by omega⟩
  have hl := zft_le ss p
  have h0 := hP.2.1 (by omega)
  have hcu : Zcu ss cl p ≤ p := zcu_le
  obtain ⟨d1, d2, d3, d4, d5, d6, d7⟩ := hP.2.2 (Zcu ss cl p) (by omega)
  obtain ⟨f1, f2, f3, f4, f5, f6, f7⟩ := hP.2.2 (Zft ss p) (by omega)
  have ecu : (nI (Zcu ss cl p)).toNatClampNeg = Zcu ss cl p := zc_i (by omega)
  have icu : vp_in (nI (Zcu ss cl p)) 48 := vp_in_nI (by omega) (by omega)
  have icu2 : vp_in (nI (Zcu ss cl p)) 240 := vp_in_nI (by omega) (by omega)
  have eft : (nI (Zft ss p)).toNatClampNeg = Zft ss p := zc_i (by omega)
  have ift2 : vp_in (nI (Zft ss p)) 240 := vp_in_nI (by omega) (by omega)
  refine nm_r (nI_1 s) (nm_r (nI_1 a) ⟨hi, br_t ek ⟨hi, nm_r ev (x_oe0 (by decide) hh hp48 rfl hpc hE (br_t rfl (br_t (by decide) (br_f (by decide) (br_f (by decide) (br_f (by decide) (br_t (by decide) (br_f (by decide) (br_f (by decide) (br_f (by decide) (br_t (by decide) (?_))))))))))))⟩⟩)
  unfold wX_execute_139 wpX_changePath
  refine x_opDX (j := 0) rfl rfl hh (by omega) (x_opDY (j := 0) rfl rfl hh (by omega) (br_f (by decide) (br_f (by decide) (br_f (by decide) (br_f (by decide) (br_f (by decide) (br_f (by decide) (br_f (by decide) (br_f (by decide) (br_t rfl (?_)))))))))))
  unfold wpX_curveTo
  refine x_lastClosed hP hpc ?_
  by_cases hc : cl (Zft ss p) = 0
  · rw [if_pos hc]
    have hYp : ∀ Q : Int32 → SY → Prop, (¬ (zof (ZDX mA mB oX (sv (h - 1 - (4 + 1))).toInt64 (sv (h - 1 - 4)).toInt64) (ZDX mA mB oY (sv (h - 1 - 4)).toInt64 (-(sv (h - 1 - (4 + 1))).toInt64)) = 0 ∧ zof (ZDX mA mB oX (sv (h - 1 - (2 + 1))).toInt64 (sv (h - 1 - 2)).toInt64) (ZDX mA mB oY (sv (h - 1 - 2)).toInt64 (-(sv (h - 1 - (2 + 1))).toInt64)) = 0 ∧ zof (ZDX mA mB oX (sv (h - 1 - (0 + 1))).toInt64 (sv (h - 1 - 0)).toInt64) (ZDX mA mB oY (sv (h - 1 - 0)).toInt64 (-(sv (h - 1 - (0 + 1))).toInt64)) = 0) → wY_check_155 Q (nI 33) (nI 6) (nI (p + 1 + 8)) (nI t) 0 (nI h) (nI n) (nI a) 0 (-1) (nI (s + 1)) (nI c) 0 0 0 1 tk tv dg sk sv vk vv hw fr og lf st la fm fc gr wi mn qx qy ss cl cp nx ny) → (zof (ZDX mA mB oX (sv (h - 1 - (4 + 1))).toInt64 (sv (h - 1 - 4)).toInt64) (ZDX mA mB oY (sv (h - 1 - 4)).toInt64 (-(sv (h - 1 - (4 + 1))).toInt64)) = 0 → zof (ZDX mA mB oX (sv (h - 1 - (2 + 1))).toInt64 (sv (h - 1 - 2)).toInt64) (ZDX mA mB oY (sv (h - 1 - 2)).toInt64 (-(sv (h - 1 - (2 + 1))).toInt64)) = 0 → zof (ZDX mA mB oX (sv (h - 1 - (0 + 1))).toInt64 (sv (h - 1 - 0)).toInt64) (ZDX mA mB oY (sv (h - 1 - 0)).toInt64 (-(sv (h - 1 - (0 + 1))).toInt64)) = 0 → wY_check_129 Q (nI 33) (nI 6) (nI t) 0 (nI h) (nI n) (nI a) 0 (-1) (nI (s + 1)) (nI c) (nI (0 + 8)) 0 0 0 tk tv dg sk sv vk vv hw fr og lf st la fm fc gr wi mn qx qy ss cl cp (zf nx 0 (0 + 8) (zcg 0 (px (Zcu ss cl p)).toInt64 (ZDX mA mB oX (sv (h - 1 - (4 + 1))).toInt64 (sv (h - 1 - 4)).toInt64) (ZDX mA mB oX (sv (h - 1 - (2 + 1))).toInt64 (sv (h - 1 - 2)).toInt64) (ZDX mA mB oX (sv (h - 1 - (0 + 1))).toInt64 (sv (h - 1 - 0)).toInt64))) (zf ny 0 (0 + 8) (zcg 0 (py (Zcu ss cl p)).toInt64 (ZDX mA mB oY (sv (h - 1 - 4)).toInt64 (-(sv (h - 1 - (4 + 1))).toInt64)) (ZDX mA mB oY (sv (h - 1 - 2)).toInt64 (-(sv (h - 1 - (2 + 1))).toInt64)) (ZDX mA mB oY (sv (h - 1 - 0)).toInt64 (-(sv (h - 1 - (0 + 1))).toInt64))))) → wY_check_87 Q (nI 33) (nI (ztk 33)) (nI t) 0 (nI h) (nI n) (nI a) 0 (-1) (nI (s + 1)) (nI c) nw gn bg wd tk tv dg sk sv vk vv hw fr og lf st la fm fc gr wi mn qx qy ss cl cp nx ny := by
      intro Q kw k0
      have e155 : mn 0 + 8 = nI (p + 1 + 8) := by rw [hmn]; exact nI_add (p + 1) 8
      refine br_f (by decide) (br_f (by decide) (y_pl134 (by decide) (by decide) h0 hmn (by omega) (br_f (by decide) (br_f (by decide) (br_f (by decide) (br_f (by decide) (br_t rfl (?_))))))))
      refine ⟨ift2, br_t (by rw [eft]; exact hc) ⟨rfl, rfl, br_t rfl (br_t rfl ⟨ift2, br_t (by rw [eft]; exact hc) (br_t rfl ⟨icu2, icu2, ?_⟩)⟩)⟩⟩
      rw [ecu, d1, d2]
      refine y_bend (s := 0) hG.1 rfl hh z1 rfl (by omega) d6 d7 (fun z => br_t rfl (br_f (by decide) (br_t rfl ?_))) (fun q1 q2 q3 => br_t rfl (br_t rfl (k0 q1 q2 q3)))
      unfold wY_check_125
      rw [e155]
      exact kw z
    have hY7 : ∀ (PY : SY → Prop), 48 < p + 1 + 8 → ((¬ (zof (ZDX mA mB oX (sv (h - 1 - (4 + 1))).toInt64 (sv (h - 1 - 4)).toInt64) (ZDX mA mB oY (sv (h - 1 - 4)).toInt64 (-(sv (h - 1 - (4 + 1))).toInt64)) = 0 ∧ zof (ZDX mA mB oX (sv (h - 1 - (2 + 1))).toInt64 (sv (h - 1 - 2)).toInt64) (ZDX mA mB oY (sv (h - 1 - 2)).toInt64 (-(sv (h - 1 - (2 + 1))).toInt64)) = 0 ∧ zof (ZDX mA mB oX (sv (h - 1 - (0 + 1))).toInt64 (sv (h - 1 - 0)).toInt64) (ZDX mA mB oY (sv (h - 1 - 0)).toInt64 (-(sv (h - 1 - (0 + 1))).toInt64)) = 0) → PY (nI t, 0, nI h, nI n, nI a, 7, -1, nI (s + 1), nI c, 0, 0, 0, 1, tk, tv, dg, sk, sv, vk, vv, hw, fr, og, lf, st, la, fm, fc, gr, wi, mn, qx, qy, ss, cl, cp, nx, ny))) → ((zof (ZDX mA mB oX (sv (h - 1 - (4 + 1))).toInt64 (sv (h - 1 - 4)).toInt64) (ZDX mA mB oY (sv (h - 1 - 4)).toInt64 (-(sv (h - 1 - (4 + 1))).toInt64)) = 0 ∧ zof (ZDX mA mB oX (sv (h - 1 - (2 + 1))).toInt64 (sv (h - 1 - 2)).toInt64) (ZDX mA mB oY (sv (h - 1 - 2)).toInt64 (-(sv (h - 1 - (2 + 1))).toInt64)) = 0 ∧ zof (ZDX mA mB oX (sv (h - 1 - (0 + 1))).toInt64 (sv (h - 1 - 0)).toInt64) (ZDX mA mB oY (sv (h - 1 - 0)).toInt64 (-(sv (h - 1 - (0 + 1))).toInt64)) = 0) → PY (nI t, 0, nI h, nI n, nI a, 7, -1, nI (s + 1), nI c, nI (0 + 8), 0, 0, 0, tk, tv, dg, sk, sv, vk, vv, hw, fr, og, lf, st, la, fm, fc, gr, wi, mn, qx, qy, ss, cl, cp, zf nx 0 (0 + 8) (zcg 0 (px (Zcu ss cl p)).toInt64 (ZDX mA mB oX (sv (h - 1 - (4 + 1))).toInt64 (sv (h - 1 - 4)).toInt64) (ZDX mA mB oX (sv (h - 1 - (2 + 1))).toInt64 (sv (h - 1 - 2)).toInt64) (ZDX mA mB oX (sv (h - 1 - (0 + 1))).toInt64 (sv (h - 1 - 0)).toInt64)), zf ny 0 (0 + 8) (zcg 0 (py (Zcu ss cl p)).toInt64 (ZDX mA mB oY (sv (h - 1 - 4)).toInt64 (-(sv (h - 1 - (4 + 1))).toInt64)) (ZDX mA mB oY (sv (h - 1 - 2)).toInt64 (-(sv (h - 1 - (2 + 1))).toInt64)) (ZDX mA mB oY (sv (h - 1 - 0)).toInt64 (-(sv (h - 1 - (0 + 1))).toInt64))))) → wpY_execute PY (nI t, 0, nI h, nI n, nI a, 0, -1, nI (s + 1), nI c, nw, gn, bg, wd, tk, tv, dg, sk, sv, vk, vv, hw, fr, og, lf, st, la, fm, fc, gr, wi, mn, qx, qy, ss, cl, cp, nx, ny) := by
      intro PY h48 kw k0
      refine ⟨hi, nm_r ev ⟨hi, nm_r ek (br_f (by decide) (br_f (by decide) (br_f (by decide) (br_t rfl ?_))))⟩⟩
      unfold wY_execute_245 wpY_operate
      refine y_check (by decide) hh hp48 (zst_k hS) rfl hmn (fun z => absurd hE z) (fun _ z => absurd z (by decide)) (fun _ _ _ => hYp _ (fun z => y_ckZ rfl hh z1 (by omega) (by decide) (by decide) (by decide) (by decide) (by decide) (by decide) (by decide) (fun _ => br_f (by decide) (kw z)) (fun z => by omega) (by decide)) (fun q1 q2 q3 => y_ckP (g := 0) (q := 8) rfl hh z1 hmn hp48 rfl (by omega) rfl (by omega) (by decide) (by decide) (by decide) (by decide) (by decide) (by decide) (by decide) (by decide) (by decide) (by decide) (by decide) (by decide) (by decide) (fun _ => br_f (by decide) (k0 ⟨q1, q2, q3⟩)) (fun z => by omega) (fun z => by omega)))
    refine br_t rfl ?_
    have hle : pC + 8 + 0 = nI (p + 1 + 8) := by
      rw [hpc]
      rw [Int32.add_zero]; exact nI_add (p + 1) 8
    refine pk_le (p + 1 + 8) 48 (fun h48 => ?_) (fun h48 => ?_) hle
    · refine x_opDX (j := 4) rfl rfl hh (by omega) (x_opDY (j := 4) rfl rfl hh (by omega) (x_opDX (j := 2) rfl rfl hh (by omega) (x_opDY (j := 2) rfl rfl hh (by omega) (x_opDX (j := 0) rfl rfl hh (by omega) (x_opDY (j := 0) rfl rfl hh (by omega) (x_off ?_))))))
      have err5 : ¬ (zof (ZDX mA mB oX (sv (h - 1 - (4 + 1))).toInt64 (sv (h - 1 - 4)).toInt64) (ZDX mA mB oY (sv (h - 1 - 4)).toInt64 (-(sv (h - 1 - (4 + 1))).toInt64)) = 0 ∧ zof (ZDX mA mB oX (sv (h - 1 - (2 + 1))).toInt64 (sv (h - 1 - 2)).toInt64) (ZDX mA mB oY (sv (h - 1 - 2)).toInt64 (-(sv (h - 1 - (2 + 1))).toInt64)) = 0 ∧ zof (ZDX mA mB oX (sv (h - 1 - (0 + 1))).toInt64 (sv (h - 1 - 0)).toInt64) (ZDX mA mB oY (sv (h - 1 - 0)).toInt64 (-(sv (h - 1 - (0 + 1))).toInt64)) = 0) → wX_execute_153 PX (nI 33) 5 (nI t) 0 (nI (a + 1)) (nI (s + 1)) (-1) (nI h) (nI n) mA mB oX oY gY wD pC (nI c) tk tv cb sk sv vk vv bp br bh bn bs bl px py pm cr sn sx sy sm sp dg := fun z => x_153e (by decide) (H 5 _ (nI t, 0, nI h, nI n, nI a, 5, -1, nI (s + 1), nI c, 0, 0, 0, 1, tk, tv, dg, sk, sv, vk, vv, hw, fr, og, lf, st, la, fm, fc, gr, wi, mn, qx, qy, ss, cl, cp, nx, ny) (zs_er hR' (by decide)) (fun PY hp => by
        refine ⟨hi, nm_r ev ⟨hi, nm_r ek (br_f (by decide) (br_f (by decide) (br_f (by decide) (br_t rfl ?_))))⟩⟩
        unfold wY_execute_245 wpY_operate
        refine y_check (by decide) hh hp48 (zst_k hS) rfl hmn (fun z => absurd hE z) (fun _ z => absurd z (by decide)) (fun _ _ _ => hYp _ (fun z => y_ckZ rfl hh z1 (by omega) (by decide) (by decide) (by decide) (by decide) (by decide) (by decide) (by decide) (fun z => by omega) (fun _ => br_f (by decide) hp) (by decide)) (fun q1 q2 q3 => absurd ⟨q1, q2, q3⟩ z))))
      refine br_c (fun q1 => x_off (br_c (fun q2 => x_off (br_c (fun q3 => ?_) (fun q3 => err5 (fun z => q3 z.2.2)))) (fun q2 => err5 (fun z => q2 z.2.1)))) (fun q1 => err5 (fun z => q1 z.1))
      have za := zs6_of q1
      have zb := zs6_of q2
      have zc := zs6_of q3
      refine x_curPt hP hpc ⟨icu, nm_r (congrArg px ecu) ⟨icu, nm_r (congrArg py ecu) ?_⟩⟩
      subst hpc
      have L : ∀ post : Int32 → SX → Prop, post 0 (nI t, 0, nI (a + 1), nI (s + 1), -1, nI h, nI n, mA, mB, oX, oY, gY, wD, nI (p + 1 + 8), nI c, tk, tv, cb, sk, sv, vk, vv, bp, br, bh, bn, bs, bl, zf px (p + 1) (p + 1 + 8) (zcg (p + 1) (px (Zcu ss cl p)).toInt64 (ZDX mA mB oX (sv (h - 1 - (4 + 1))).toInt64 (sv (h - 1 - 4)).toInt64) (ZDX mA mB oX (sv (h - 1 - (2 + 1))).toInt64 (sv (h - 1 - 2)).toInt64) (ZDX mA mB oX (sv (h - 1 - (0 + 1))).toInt64 (sv (h - 1 - 0)).toInt64)), zf py (p + 1) (p + 1 + 8) (zcg (p + 1) (py (Zcu ss cl p)).toInt64 (ZDX mA mB oY (sv (h - 1 - 4)).toInt64 (-(sv (h - 1 - (4 + 1))).toInt64)) (ZDX mA mB oY (sv (h - 1 - 2)).toInt64 (-(sv (h - 1 - (2 + 1))).toInt64)) (ZDX mA mB oY (sv (h - 1 - 0)).toInt64 (-(sv (h - 1 - (0 + 1))).toInt64))), zf pm (p + 1) (p + 1 + 8) (fun _ => 0), cr, sn, sx, sy, sm, sp, dg) → wX_curveTo_144 post (ZDX mA mB oX (sv (h - 1 - (4 + 1))).toInt64 (sv (h - 1 - 4)).toInt64) (ZDX mA mB oY (sv (h - 1 - 4)).toInt64 (-(sv (h - 1 - (4 + 1))).toInt64)) (ZDX mA mB oX (sv (h - 1 - (2 + 1))).toInt64 (sv (h - 1 - 2)).toInt64) (ZDX mA mB oY (sv (h - 1 - 2)).toInt64 (-(sv (h - 1 - (2 + 1))).toInt64)) (ZDX mA mB oX (sv (h - 1 - (0 + 1))).toInt64 (sv (h - 1 - 0)).toInt64) (ZDX mA mB oY (sv (h - 1 - 0)).toInt64 (-(sv (h - 1 - (0 + 1))).toInt64)) (px (Zcu ss cl p)) (py (Zcu ss cl p)) 9 1 (nI t) 0 (nI (a + 1)) (nI (s + 1)) (-1) (nI h) (nI n) mA mB oX oY gY wD (nI (p + 1)) (nI c) tk tv cb sk sv vk vv bp br bh bn bs bl px py pm cr sn sx sy sm sp dg := by
        intro post k
        have L := x_cv_l (s := p + 1) h48 k 8 0 rfl
        rw [Nat.add_zero (p + 1), zf_z, zf_z, zf_z] at L
        exact L
      refine br_t rfl ⟨9, L _ (x_153 (n := 6) (by decide) rfl z1 rfl (H 0 _ (nI t, 0, nI (h - 6), nI n, nI a + 1, 0, -1, nI (s + 1), nI c, nI (0 + 8), 0, 0, 0, tk, tv, dg, sk, sv, vk, vv, hw, fr, og, lf, st, la, fm, fc, gr, wi, upd mn 0 (nI (p + 1 + 8)), zf qx (p + 1) (p + 1 + 8) (fun i => (zf nx 0 (0 + 8) (zcg 0 (px (Zcu ss cl p)).toInt64 (ZDX mA mB oX (sv (h - 1 - (4 + 1))).toInt64 (sv (h - 1 - 4)).toInt64) (ZDX mA mB oX (sv (h - 1 - (2 + 1))).toInt64 (sv (h - 1 - 2)).toInt64) (ZDX mA mB oX (sv (h - 1 - (0 + 1))).toInt64 (sv (h - 1 - 0)).toInt64))) (i - (p + 1))), zf qy (p + 1) (p + 1 + 8) (fun i => (zf ny 0 (0 + 8) (zcg 0 (py (Zcu ss cl p)).toInt64 (ZDX mA mB oY (sv (h - 1 - 4)).toInt64 (-(sv (h - 1 - (4 + 1))).toInt64)) (ZDX mA mB oY (sv (h - 1 - 2)).toInt64 (-(sv (h - 1 - (2 + 1))).toInt64)) (ZDX mA mB oY (sv (h - 1 - 0)).toInt64 (-(sv (h - 1 - (0 + 1))).toInt64)))) (i - (p + 1))), zf ss (p + 1) (p + 1 + 8) (fun i => if (0 : Int32) ≠ 0 ∧ i = p + 1 then 1 else 0), zf cl (p + 1) (p + 1 + 8) (fun _ => 0), cp, zf nx 0 (0 + 8) (zcg 0 (px (Zcu ss cl p)).toInt64 (ZDX mA mB oX (sv (h - 1 - (4 + 1))).toInt64 (sv (h - 1 - 4)).toInt64) (ZDX mA mB oX (sv (h - 1 - (2 + 1))).toInt64 (sv (h - 1 - 2)).toInt64) (ZDX mA mB oX (sv (h - 1 - (0 + 1))).toInt64 (sv (h - 1 - 0)).toInt64)), zf ny 0 (0 + 8) (zcg 0 (py (Zcu ss cl p)).toInt64 (ZDX mA mB oY (sv (h - 1 - 4)).toInt64 (-(sv (h - 1 - (4 + 1))).toInt64)) (ZDX mA mB oY (sv (h - 1 - 2)).toInt64 (-(sv (h - 1 - (2 + 1))).toInt64)) (ZDX mA mB oY (sv (h - 1 - 0)).toInt64 (-(sv (h - 1 - (0 + 1))).toInt64)))) (zs_ok ⟨hT, zst_le hS (by omega), hV, hF, hpn, zgs_path (q := p + 1 + 8) hG (zpt_extN hP hc (by omega) (fun k hk => ⟨zf_lo hk, zf_lo hk, zf_lo hk, zf_lo hk, zf_lo hk, zf_lo hk, zf_lo hk⟩) (fun k h1 h2 => ?_) (fun k h1 h2 => ?_)), zsv_up hSV zr_i zr_i zr_i zr_i zr_u (fun i hi => zf_hi (by omega)) (fun i hi => zf_hi (by omega)) (fun i hi => zf_hi (by omega)) (fun i hi => zf_hi (by omega)) zr_i⟩ rfl (nI_1 a) rfl rfl rfl rfl rfl rfl) (fun PY hp => ?_)))⟩
      · have e1 : zcg 0 (px (Zcu ss cl p)).toInt64 (ZDX mA mB oX (sv (h - 1 - (4 + 1))).toInt64 (sv (h - 1 - 4)).toInt64) (ZDX mA mB oX (sv (h - 1 - (2 + 1))).toInt64 (sv (h - 1 - 2)).toInt64) (ZDX mA mB oX (sv (h - 1 - (0 + 1))).toInt64 (sv (h - 1 - 0)).toInt64) (k - (p + 1)) = zcg (p + 1) (px (Zcu ss cl p)).toInt64 (ZDX mA mB oX (sv (h - 1 - (4 + 1))).toInt64 (sv (h - 1 - 4)).toInt64) (ZDX mA mB oX (sv (h - 1 - (2 + 1))).toInt64 (sv (h - 1 - 2)).toInt64) (ZDX mA mB oX (sv (h - 1 - (0 + 1))).toInt64 (sv (h - 1 - 0)).toInt64) k := by
          unfold zcg
          rw [show k - (p + 1) - 0 + 1 = k - (p + 1) + 1 by omega]
        have e2 : zcg 0 (py (Zcu ss cl p)).toInt64 (ZDX mA mB oY (sv (h - 1 - 4)).toInt64 (-(sv (h - 1 - (4 + 1))).toInt64)) (ZDX mA mB oY (sv (h - 1 - 2)).toInt64 (-(sv (h - 1 - (2 + 1))).toInt64)) (ZDX mA mB oY (sv (h - 1 - 0)).toInt64 (-(sv (h - 1 - (0 + 1))).toInt64)) (k - (p + 1)) = zcg (p + 1) (py (Zcu ss cl p)).toInt64 (ZDX mA mB oY (sv (h - 1 - 4)).toInt64 (-(sv (h - 1 - (4 + 1))).toInt64)) (ZDX mA mB oY (sv (h - 1 - 2)).toInt64 (-(sv (h - 1 - (2 + 1))).toInt64)) (ZDX mA mB oY (sv (h - 1 - 0)).toInt64 (-(sv (h - 1 - (0 + 1))).toInt64)) k := by
          unfold zcg
          rw [show k - (p + 1) - 0 + 1 = k - (p + 1) + 1 by omega]
        rw [zf_in (a := qx) (by omega) (by omega), zf_in (a := qy) (by omega) (by omega), zf_in (a := cl) (by omega) (by omega), zf_in (a := px) (by omega) (by omega), zf_in (a := py) (by omega) (by omega), zf_in (a := nx) (by omega) (by omega), zf_in (a := ny) (by omega) (by omega), e1, e2]
        have hb := zof_0 (zof_s6 (zcv_b (j := k - (p + 1) + 1) (by omega) (zs6_32 d6) za.1 zb.1 zc.1) (zcv_b (j := k - (p + 1) + 1) (by omega) (zs6_32 d7) za.2 zb.2 zc.2))
        exact ⟨rfl, rfl, rfl, hb.1, hb.2⟩
      · rw [zf_in (by omega) (by omega), zf_in (by omega) (by omega), if_neg (fun z => z.1 rfl)]
        exact ⟨rfl, rfl⟩
      · refine ⟨hi, nm_r ev ⟨hi, nm_r ek (br_f (by decide) (br_f (by decide) (br_f (by decide) (br_t rfl ?_))))⟩⟩
        unfold wY_execute_245 wpY_operate
        refine y_check (by decide) hh hp48 (zst_k hS) rfl hmn (fun z => absurd hE z) (fun _ z => absurd z (by decide)) (fun _ _ _ => hYp _ (fun z => absurd ⟨q1, q2, q3⟩ z) (fun _ _ _ => y_ckP (g := 0) (q := 8) rfl hh z1 hmn hp48 rfl (by omega) rfl (by omega) (by decide) (by decide) (by decide) (by decide) (by decide) (by decide) (by decide) (by decide) (by decide) (by decide) (by decide) (by decide) (by decide) (fun z => by omega) (fun _ z => absurd rfl z) (fun _ _ => br_t rfl ?_)))
        refine br_t (by decide) (br_t (by decide) (br_t (by decide) (br_t (by decide) (?_))))
        unfold wY_operate_71
        exact y_path (m := p + 1) (q := 8) (n := 6) (g := 0) (by decide) (by decide) rfl z1 rfl (by omega) (by omega) (Or.inl rfl) (by decide) rfl rfl hmn (by omega) (by omega) hp48 (fun z => absurd z (by decide)) (fun _ => br_f (by decide) (nm_e hp))
    · by_cases q : zof (ZDX mA mB oX (sv (h - 1 - (4 + 1))).toInt64 (sv (h - 1 - 4)).toInt64) (ZDX mA mB oY (sv (h - 1 - 4)).toInt64 (-(sv (h - 1 - (4 + 1))).toInt64)) = 0 ∧ zof (ZDX mA mB oX (sv (h - 1 - (2 + 1))).toInt64 (sv (h - 1 - 2)).toInt64) (ZDX mA mB oY (sv (h - 1 - 2)).toInt64 (-(sv (h - 1 - (2 + 1))).toInt64)) = 0 ∧ zof (ZDX mA mB oX (sv (h - 1 - (0 + 1))).toInt64 (sv (h - 1 - 0)).toInt64) (ZDX mA mB oY (sv (h - 1 - 0)).toInt64 (-(sv (h - 1 - (0 + 1))).toInt64)) = 0
      · exact x_153e (by decide) (H 7 _ (nI t, 0, nI h, nI n, nI a, 7, -1, nI (s + 1), nI c, nI (0 + 8), 0, 0, 0, tk, tv, dg, sk, sv, vk, vv, hw, fr, og, lf, st, la, fm, fc, gr, wi, mn, qx, qy, ss, cl, cp, zf nx 0 (0 + 8) (zcg 0 (px (Zcu ss cl p)).toInt64 (ZDX mA mB oX (sv (h - 1 - (4 + 1))).toInt64 (sv (h - 1 - 4)).toInt64) (ZDX mA mB oX (sv (h - 1 - (2 + 1))).toInt64 (sv (h - 1 - 2)).toInt64) (ZDX mA mB oX (sv (h - 1 - (0 + 1))).toInt64 (sv (h - 1 - 0)).toInt64)), zf ny 0 (0 + 8) (zcg 0 (py (Zcu ss cl p)).toInt64 (ZDX mA mB oY (sv (h - 1 - 4)).toInt64 (-(sv (h - 1 - (4 + 1))).toInt64)) (ZDX mA mB oY (sv (h - 1 - 2)).toInt64 (-(sv (h - 1 - (2 + 1))).toInt64)) (ZDX mA mB oY (sv (h - 1 - 0)).toInt64 (-(sv (h - 1 - (0 + 1))).toInt64)))) (zs_er hR' (by decide)) (fun PY hp => hY7 PY h48 (fun z => absurd q z) (fun _ => hp)))
      · exact x_153e (by decide) (H 7 _ (nI t, 0, nI h, nI n, nI a, 7, -1, nI (s + 1), nI c, 0, 0, 0, 1, tk, tv, dg, sk, sv, vk, vv, hw, fr, og, lf, st, la, fm, fc, gr, wi, mn, qx, qy, ss, cl, cp, nx, ny) (zs_er hR' (by decide)) (fun PY hp => hY7 PY h48 (fun _ => hp) (fun z => absurd z q)))
  · rw [if_neg hc]
    have hYp : ∀ Q : Int32 → SY → Prop, (¬ (zof (ZDX mA mB oX (sv (h - 1 - (4 + 1))).toInt64 (sv (h - 1 - 4)).toInt64) (ZDX mA mB oY (sv (h - 1 - 4)).toInt64 (-(sv (h - 1 - (4 + 1))).toInt64)) = 0 ∧ zof (ZDX mA mB oX (sv (h - 1 - (2 + 1))).toInt64 (sv (h - 1 - 2)).toInt64) (ZDX mA mB oY (sv (h - 1 - 2)).toInt64 (-(sv (h - 1 - (2 + 1))).toInt64)) = 0 ∧ zof (ZDX mA mB oX (sv (h - 1 - (0 + 1))).toInt64 (sv (h - 1 - 0)).toInt64) (ZDX mA mB oY (sv (h - 1 - 0)).toInt64 (-(sv (h - 1 - (0 + 1))).toInt64)) = 0) → wY_check_155 Q (nI 33) (nI 6) (nI (p + 1 + 9)) (nI t) 0 (nI h) (nI n) (nI a) 0 (-1) (nI (s + 1)) (nI c) (nI (0 + 1)) 0 1 1 tk tv dg sk sv vk vv hw fr og lf st la fm fc gr wi mn qx qy ss cl cp (upd nx 0 ((px (Zft ss p)).toInt64).toInt32) (upd ny 0 ((py (Zft ss p)).toInt64).toInt32)) → (zof (ZDX mA mB oX (sv (h - 1 - (4 + 1))).toInt64 (sv (h - 1 - 4)).toInt64) (ZDX mA mB oY (sv (h - 1 - 4)).toInt64 (-(sv (h - 1 - (4 + 1))).toInt64)) = 0 → zof (ZDX mA mB oX (sv (h - 1 - (2 + 1))).toInt64 (sv (h - 1 - 2)).toInt64) (ZDX mA mB oY (sv (h - 1 - 2)).toInt64 (-(sv (h - 1 - (2 + 1))).toInt64)) = 0 → zof (ZDX mA mB oX (sv (h - 1 - (0 + 1))).toInt64 (sv (h - 1 - 0)).toInt64) (ZDX mA mB oY (sv (h - 1 - 0)).toInt64 (-(sv (h - 1 - (0 + 1))).toInt64)) = 0 → wY_check_129 Q (nI 33) (nI 6) (nI t) 0 (nI h) (nI n) (nI a) 0 (-1) (nI (s + 1)) (nI c) (nI (1 + 8)) 0 1 0 tk tv dg sk sv vk vv hw fr og lf st la fm fc gr wi mn qx qy ss cl cp (zf (upd nx 0 ((px (Zft ss p)).toInt64).toInt32) 1 (1 + 8) (zcg 1 (px (Zcu ss cl p)).toInt64 (ZDX mA mB oX (sv (h - 1 - (4 + 1))).toInt64 (sv (h - 1 - 4)).toInt64) (ZDX mA mB oX (sv (h - 1 - (2 + 1))).toInt64 (sv (h - 1 - 2)).toInt64) (ZDX mA mB oX (sv (h - 1 - (0 + 1))).toInt64 (sv (h - 1 - 0)).toInt64))) (zf (upd ny 0 ((py (Zft ss p)).toInt64).toInt32) 1 (1 + 8) (zcg 1 (py (Zcu ss cl p)).toInt64 (ZDX mA mB oY (sv (h - 1 - 4)).toInt64 (-(sv (h - 1 - (4 + 1))).toInt64)) (ZDX mA mB oY (sv (h - 1 - 2)).toInt64 (-(sv (h - 1 - (2 + 1))).toInt64)) (ZDX mA mB oY (sv (h - 1 - 0)).toInt64 (-(sv (h - 1 - (0 + 1))).toInt64))))) → wY_check_87 Q (nI 33) (nI (ztk 33)) (nI t) 0 (nI h) (nI n) (nI a) 0 (-1) (nI (s + 1)) (nI c) nw gn bg wd tk tv dg sk sv vk vv hw fr og lf st la fm fc gr wi mn qx qy ss cl cp nx ny := by
      intro Q kw k0
      have e155 : mn 0 + 9 = nI (p + 1 + 9) := by rw [hmn]; exact nI_add (p + 1) 9
      refine br_f (by decide) (br_f (by decide) (y_pl134 (by decide) (by decide) h0 hmn (by omega) (br_f (by decide) (br_f (by decide) (br_f (by decide) (br_f (by decide) (br_t rfl (?_))))))))
      refine ⟨ift2, br_f (by rw [eft]; exact hc) ⟨rfl, rfl, br_t rfl (br_t rfl ⟨ift2, br_f (by rw [eft]; exact hc) ⟨ift2, ift2, ?_⟩⟩)⟩⟩
      rw [eft, f1, f2]
      refine y_plan (q := 0) rfl (by omega) (Or.inl rfl) (br_t rfl ⟨icu2, icu2, ?_⟩)
      rw [ecu, d1, d2]
      refine y_bend (s := 1) hG.1 rfl hh z1 rfl (by omega) d6 d7 (fun z => br_t rfl (br_f (by decide) (br_f (by decide) ?_))) (fun q1 q2 q3 => br_t rfl (br_t rfl (k0 q1 q2 q3)))
      unfold wY_check_125
      rw [e155]
      exact kw z
    have hY7 : ∀ (PY : SY → Prop), 48 < p + 1 + 9 → ((¬ (zof (ZDX mA mB oX (sv (h - 1 - (4 + 1))).toInt64 (sv (h - 1 - 4)).toInt64) (ZDX mA mB oY (sv (h - 1 - 4)).toInt64 (-(sv (h - 1 - (4 + 1))).toInt64)) = 0 ∧ zof (ZDX mA mB oX (sv (h - 1 - (2 + 1))).toInt64 (sv (h - 1 - 2)).toInt64) (ZDX mA mB oY (sv (h - 1 - 2)).toInt64 (-(sv (h - 1 - (2 + 1))).toInt64)) = 0 ∧ zof (ZDX mA mB oX (sv (h - 1 - (0 + 1))).toInt64 (sv (h - 1 - 0)).toInt64) (ZDX mA mB oY (sv (h - 1 - 0)).toInt64 (-(sv (h - 1 - (0 + 1))).toInt64)) = 0) → PY (nI t, 0, nI h, nI n, nI a, 7, -1, nI (s + 1), nI c, nI (0 + 1), 0, 1, 1, tk, tv, dg, sk, sv, vk, vv, hw, fr, og, lf, st, la, fm, fc, gr, wi, mn, qx, qy, ss, cl, cp, (upd nx 0 ((px (Zft ss p)).toInt64).toInt32), (upd ny 0 ((py (Zft ss p)).toInt64).toInt32)))) → ((zof (ZDX mA mB oX (sv (h - 1 - (4 + 1))).toInt64 (sv (h - 1 - 4)).toInt64) (ZDX mA mB oY (sv (h - 1 - 4)).toInt64 (-(sv (h - 1 - (4 + 1))).toInt64)) = 0 ∧ zof (ZDX mA mB oX (sv (h - 1 - (2 + 1))).toInt64 (sv (h - 1 - 2)).toInt64) (ZDX mA mB oY (sv (h - 1 - 2)).toInt64 (-(sv (h - 1 - (2 + 1))).toInt64)) = 0 ∧ zof (ZDX mA mB oX (sv (h - 1 - (0 + 1))).toInt64 (sv (h - 1 - 0)).toInt64) (ZDX mA mB oY (sv (h - 1 - 0)).toInt64 (-(sv (h - 1 - (0 + 1))).toInt64)) = 0) → PY (nI t, 0, nI h, nI n, nI a, 7, -1, nI (s + 1), nI c, nI (1 + 8), 0, 1, 0, tk, tv, dg, sk, sv, vk, vv, hw, fr, og, lf, st, la, fm, fc, gr, wi, mn, qx, qy, ss, cl, cp, zf (upd nx 0 ((px (Zft ss p)).toInt64).toInt32) 1 (1 + 8) (zcg 1 (px (Zcu ss cl p)).toInt64 (ZDX mA mB oX (sv (h - 1 - (4 + 1))).toInt64 (sv (h - 1 - 4)).toInt64) (ZDX mA mB oX (sv (h - 1 - (2 + 1))).toInt64 (sv (h - 1 - 2)).toInt64) (ZDX mA mB oX (sv (h - 1 - (0 + 1))).toInt64 (sv (h - 1 - 0)).toInt64)), zf (upd ny 0 ((py (Zft ss p)).toInt64).toInt32) 1 (1 + 8) (zcg 1 (py (Zcu ss cl p)).toInt64 (ZDX mA mB oY (sv (h - 1 - 4)).toInt64 (-(sv (h - 1 - (4 + 1))).toInt64)) (ZDX mA mB oY (sv (h - 1 - 2)).toInt64 (-(sv (h - 1 - (2 + 1))).toInt64)) (ZDX mA mB oY (sv (h - 1 - 0)).toInt64 (-(sv (h - 1 - (0 + 1))).toInt64))))) → wpY_execute PY (nI t, 0, nI h, nI n, nI a, 0, -1, nI (s + 1), nI c, nw, gn, bg, wd, tk, tv, dg, sk, sv, vk, vv, hw, fr, og, lf, st, la, fm, fc, gr, wi, mn, qx, qy, ss, cl, cp, nx, ny) := by
      intro PY h48 kw k0
      refine ⟨hi, nm_r ev ⟨hi, nm_r ek (br_f (by decide) (br_f (by decide) (br_f (by decide) (br_t rfl ?_))))⟩⟩
      unfold wY_execute_245 wpY_operate
      refine y_check (by decide) hh hp48 (zst_k hS) rfl hmn (fun z => absurd hE z) (fun _ z => absurd z (by decide)) (fun _ _ _ => hYp _ (fun z => y_ckZ rfl hh z1 (by omega) (by decide) (by decide) (by decide) (by decide) (by decide) (by decide) (by decide) (fun _ => br_f (by decide) (kw z)) (fun z => by omega) (by decide)) (fun q1 q2 q3 => y_ckP (g := 0) (q := 9) rfl hh z1 hmn hp48 rfl (by omega) rfl (by omega) (by decide) (by decide) (by decide) (by decide) (by decide) (by decide) (by decide) (by decide) (by decide) (by decide) (by decide) (by decide) (by decide) (fun _ => br_f (by decide) (k0 ⟨q1, q2, q3⟩)) (fun z => by omega) (fun z => by omega)))
    refine br_f (by decide) ?_
    have hle : pC + 8 + 1 = nI (p + 1 + 9) := by
      rw [hpc]
      exact (nI_add (p + 1 + 8) 1 ▸ congrArg (· + 1) (nI_add (p + 1) 8))
    refine pk_le (p + 1 + 9) 48 (fun h48 => ?_) (fun h48 => ?_) hle
    · refine x_opDX (j := 4) rfl rfl hh (by omega) (x_opDY (j := 4) rfl rfl hh (by omega) (x_opDX (j := 2) rfl rfl hh (by omega) (x_opDY (j := 2) rfl rfl hh (by omega) (x_opDX (j := 0) rfl rfl hh (by omega) (x_opDY (j := 0) rfl rfl hh (by omega) (x_off ?_))))))
      have err5 : ¬ (zof (ZDX mA mB oX (sv (h - 1 - (4 + 1))).toInt64 (sv (h - 1 - 4)).toInt64) (ZDX mA mB oY (sv (h - 1 - 4)).toInt64 (-(sv (h - 1 - (4 + 1))).toInt64)) = 0 ∧ zof (ZDX mA mB oX (sv (h - 1 - (2 + 1))).toInt64 (sv (h - 1 - 2)).toInt64) (ZDX mA mB oY (sv (h - 1 - 2)).toInt64 (-(sv (h - 1 - (2 + 1))).toInt64)) = 0 ∧ zof (ZDX mA mB oX (sv (h - 1 - (0 + 1))).toInt64 (sv (h - 1 - 0)).toInt64) (ZDX mA mB oY (sv (h - 1 - 0)).toInt64 (-(sv (h - 1 - (0 + 1))).toInt64)) = 0) → wX_execute_153 PX (nI 33) 5 (nI t) 0 (nI (a + 1)) (nI (s + 1)) (-1) (nI h) (nI n) mA mB oX oY gY wD pC (nI c) tk tv cb sk sv vk vv bp br bh bn bs bl px py pm cr sn sx sy sm sp dg := fun z => x_153e (by decide) (H 5 _ (nI t, 0, nI h, nI n, nI a, 5, -1, nI (s + 1), nI c, nI (0 + 1), 0, 1, 1, tk, tv, dg, sk, sv, vk, vv, hw, fr, og, lf, st, la, fm, fc, gr, wi, mn, qx, qy, ss, cl, cp, (upd nx 0 ((px (Zft ss p)).toInt64).toInt32), (upd ny 0 ((py (Zft ss p)).toInt64).toInt32)) (zs_er hR' (by decide)) (fun PY hp => by
        refine ⟨hi, nm_r ev ⟨hi, nm_r ek (br_f (by decide) (br_f (by decide) (br_f (by decide) (br_t rfl ?_))))⟩⟩
        unfold wY_execute_245 wpY_operate
        refine y_check (by decide) hh hp48 (zst_k hS) rfl hmn (fun z => absurd hE z) (fun _ z => absurd z (by decide)) (fun _ _ _ => hYp _ (fun z => y_ckZ rfl hh z1 (by omega) (by decide) (by decide) (by decide) (by decide) (by decide) (by decide) (by decide) (fun z => by omega) (fun _ => br_f (by decide) hp) (by decide)) (fun q1 q2 q3 => absurd ⟨q1, q2, q3⟩ z))))
      refine br_c (fun q1 => x_off (br_c (fun q2 => x_off (br_c (fun q3 => ?_) (fun q3 => err5 (fun z => q3 z.2.2)))) (fun q2 => err5 (fun z => q2 z.2.1)))) (fun q1 => err5 (fun z => q1 z.1))
      have za := zs6_of q1
      have zb := zs6_of q2
      have zc := zs6_of q3
      refine x_curPt hP hpc ⟨icu, nm_r (congrArg px ecu) ⟨icu, nm_r (congrArg py ecu) ?_⟩⟩
      subst hpc
      have hcz : Zcu ss cl p = Zft ss p := if_neg hc
      have L : ∀ post : Int32 → SX → Prop, post 0 (nI t, 0, nI (a + 1), nI (s + 1), -1, nI h, nI n, mA, mB, oX, oY, gY, wD, nI (p + 1 + 1 + 8), nI c, tk, tv, cb, sk, sv, vk, vv, bp, br, bh, bn, bs, bl, zf (upd px (p + 1) (px (Zcu ss cl p)).toInt64.toInt32) (p + 1 + 1) (p + 1 + 1 + 8) (zcg (p + 1 + 1) (px (Zcu ss cl p)).toInt64 (ZDX mA mB oX (sv (h - 1 - (4 + 1))).toInt64 (sv (h - 1 - 4)).toInt64) (ZDX mA mB oX (sv (h - 1 - (2 + 1))).toInt64 (sv (h - 1 - 2)).toInt64) (ZDX mA mB oX (sv (h - 1 - (0 + 1))).toInt64 (sv (h - 1 - 0)).toInt64)), zf (upd py (p + 1) (py (Zcu ss cl p)).toInt64.toInt32) (p + 1 + 1) (p + 1 + 1 + 8) (zcg (p + 1 + 1) (py (Zcu ss cl p)).toInt64 (ZDX mA mB oY (sv (h - 1 - 4)).toInt64 (-(sv (h - 1 - (4 + 1))).toInt64)) (ZDX mA mB oY (sv (h - 1 - 2)).toInt64 (-(sv (h - 1 - (2 + 1))).toInt64)) (ZDX mA mB oY (sv (h - 1 - 0)).toInt64 (-(sv (h - 1 - (0 + 1))).toInt64))), zf (upd pm (p + 1) 1) (p + 1 + 1) (p + 1 + 1 + 8) (fun _ => 0), cr, sn, sx, sy, sm, sp, dg) → wX_curveTo_144 post (ZDX mA mB oX (sv (h - 1 - (4 + 1))).toInt64 (sv (h - 1 - 4)).toInt64) (ZDX mA mB oY (sv (h - 1 - 4)).toInt64 (-(sv (h - 1 - (4 + 1))).toInt64)) (ZDX mA mB oX (sv (h - 1 - (2 + 1))).toInt64 (sv (h - 1 - 2)).toInt64) (ZDX mA mB oY (sv (h - 1 - 2)).toInt64 (-(sv (h - 1 - (2 + 1))).toInt64)) (ZDX mA mB oX (sv (h - 1 - (0 + 1))).toInt64 (sv (h - 1 - 0)).toInt64) (ZDX mA mB oY (sv (h - 1 - 0)).toInt64 (-(sv (h - 1 - (0 + 1))).toInt64)) (px (Zcu ss cl p)) (py (Zcu ss cl p)) 9 1 (nI t) 0 (nI (a + 1)) (nI (s + 1)) (-1) (nI h) (nI n) mA mB oX oY gY wD (nI (p + 1 + 1)) (nI c) tk tv cb sk sv vk vv bp br bh bn bs bl (upd px (p + 1) (px (Zcu ss cl p)).toInt64.toInt32) (upd py (p + 1) (py (Zcu ss cl p)).toInt64.toInt32) (upd pm (p + 1) 1) cr sn sx sy sm sp dg := by
        intro post k
        have L := x_cv_l (s := p + 1 + 1) (by omega) k 8 0 rfl
        rw [Nat.add_zero (p + 1 + 1), zf_z, zf_z, zf_z] at L
        exact L
      refine br_f (by decide) (x_append rfl (by omega) ⟨9, L _ (x_153 (n := 6) (by decide) rfl z1 rfl (H 0 _ (nI t, 0, nI (h - 6), nI n, nI a + 1, 0, -1, nI (s + 1), nI c, nI (1 + 8), 0, 1, 0, tk, tv, dg, sk, sv, vk, vv, hw, fr, og, lf, st, la, fm, fc, gr, wi, upd mn 0 (nI (p + 1 + 9)), zf qx (p + 1) (p + 1 + 9) (fun i => (zf (upd nx 0 ((px (Zft ss p)).toInt64).toInt32) 1 (1 + 8) (zcg 1 (px (Zcu ss cl p)).toInt64 (ZDX mA mB oX (sv (h - 1 - (4 + 1))).toInt64 (sv (h - 1 - 4)).toInt64) (ZDX mA mB oX (sv (h - 1 - (2 + 1))).toInt64 (sv (h - 1 - 2)).toInt64) (ZDX mA mB oX (sv (h - 1 - (0 + 1))).toInt64 (sv (h - 1 - 0)).toInt64))) (i - (p + 1))), zf qy (p + 1) (p + 1 + 9) (fun i => (zf (upd ny 0 ((py (Zft ss p)).toInt64).toInt32) 1 (1 + 8) (zcg 1 (py (Zcu ss cl p)).toInt64 (ZDX mA mB oY (sv (h - 1 - 4)).toInt64 (-(sv (h - 1 - (4 + 1))).toInt64)) (ZDX mA mB oY (sv (h - 1 - 2)).toInt64 (-(sv (h - 1 - (2 + 1))).toInt64)) (ZDX mA mB oY (sv (h - 1 - 0)).toInt64 (-(sv (h - 1 - (0 + 1))).toInt64)))) (i - (p + 1))), zf ss (p + 1) (p + 1 + 9) (fun i => if (1 : Int32) ≠ 0 ∧ i = p + 1 then 1 else 0), zf cl (p + 1) (p + 1 + 9) (fun _ => 0), cp, zf (upd nx 0 ((px (Zft ss p)).toInt64).toInt32) 1 (1 + 8) (zcg 1 (px (Zcu ss cl p)).toInt64 (ZDX mA mB oX (sv (h - 1 - (4 + 1))).toInt64 (sv (h - 1 - 4)).toInt64) (ZDX mA mB oX (sv (h - 1 - (2 + 1))).toInt64 (sv (h - 1 - 2)).toInt64) (ZDX mA mB oX (sv (h - 1 - (0 + 1))).toInt64 (sv (h - 1 - 0)).toInt64)), zf (upd ny 0 ((py (Zft ss p)).toInt64).toInt32) 1 (1 + 8) (zcg 1 (py (Zcu ss cl p)).toInt64 (ZDX mA mB oY (sv (h - 1 - 4)).toInt64 (-(sv (h - 1 - (4 + 1))).toInt64)) (ZDX mA mB oY (sv (h - 1 - 2)).toInt64 (-(sv (h - 1 - (2 + 1))).toInt64)) (ZDX mA mB oY (sv (h - 1 - 0)).toInt64 (-(sv (h - 1 - (0 + 1))).toInt64)))) (zs_ok ⟨hT, zst_le hS (by omega), hV, hF, hpn, zgs_path (q := p + 1 + 9) hG (zpt_extB hP (by omega) (by omega) (fun k hk => ⟨by rw [zf_lo (by omega), pk_un (by omega)], by rw [zf_lo (by omega), pk_un (by omega)], by rw [zf_lo (by omega), pk_un (by omega)], zf_lo hk, zf_lo hk, zf_lo hk, zf_lo hk⟩) (fun k h1 h2 => ?_) ?_ ?_ (fun k h1 h2 => ?_)), zsv_up hSV zr_i zr_i zr_i zr_i zr_u (fun i hi => zf_hi (by omega)) (fun i hi => zf_hi (by omega)) (fun i hi => zf_hi (by omega)) (fun i hi => zf_hi (by omega)) zr_i⟩ rfl (nI_1 a) rfl rfl rfl rfl rfl rfl) (fun PY hp => ?_)))⟩)
      · rw [zf_in (a := qx) (by omega) (by omega), zf_in (a := qy) (by omega) (by omega), zf_in (a := cl) (by omega) (by omega)]
        by_cases ek : k = p + 1
        · subst ek
          rw [Nat.sub_self, zf_lo (by omega), zf_lo (by omega), zf_lo (by omega), zf_lo (by omega), pk_us, pk_us, pk_us, pk_us, hcz, Int32.toInt32_toInt64, Int32.toInt32_toInt64]
          exact ⟨rfl, rfl, rfl, f6, f7⟩
        · have e1 : zcg 1 (px (Zcu ss cl p)).toInt64 (ZDX mA mB oX (sv (h - 1 - (4 + 1))).toInt64 (sv (h - 1 - 4)).toInt64) (ZDX mA mB oX (sv (h - 1 - (2 + 1))).toInt64 (sv (h - 1 - 2)).toInt64) (ZDX mA mB oX (sv (h - 1 - (0 + 1))).toInt64 (sv (h - 1 - 0)).toInt64) (k - (p + 1)) = zcg (p + 1 + 1) (px (Zcu ss cl p)).toInt64 (ZDX mA mB oX (sv (h - 1 - (4 + 1))).toInt64 (sv (h - 1 - 4)).toInt64) (ZDX mA mB oX (sv (h - 1 - (2 + 1))).toInt64 (sv (h - 1 - 2)).toInt64) (ZDX mA mB oX (sv (h - 1 - (0 + 1))).toInt64 (sv (h - 1 - 0)).toInt64) k := by
            unfold zcg
            rw [show k - (p + 1) - 1 + 1 = k - (p + 1 + 1) + 1 by omega]
          have e2 : zcg 1 (py (Zcu ss cl p)).toInt64 (ZDX mA mB oY (sv (h - 1 - 4)).toInt64 (-(sv (h - 1 - (4 + 1))).toInt64)) (ZDX mA mB oY (sv (h - 1 - 2)).toInt64 (-(sv (h - 1 - (2 + 1))).toInt64)) (ZDX mA mB oY (sv (h - 1 - 0)).toInt64 (-(sv (h - 1 - (0 + 1))).toInt64)) (k - (p + 1)) = zcg (p + 1 + 1) (py (Zcu ss cl p)).toInt64 (ZDX mA mB oY (sv (h - 1 - 4)).toInt64 (-(sv (h - 1 - (4 + 1))).toInt64)) (ZDX mA mB oY (sv (h - 1 - 2)).toInt64 (-(sv (h - 1 - (2 + 1))).toInt64)) (ZDX mA mB oY (sv (h - 1 - 0)).toInt64 (-(sv (h - 1 - (0 + 1))).toInt64)) k := by
            unfold zcg
            rw [show k - (p + 1) - 1 + 1 = k - (p + 1 + 1) + 1 by omega]
          rw [zf_in (by omega) (by omega), zf_in (by omega) (by omega), zf_in (by omega) (by omega), zf_in (by omega) (by omega), e1, e2]
          have hb := zof_0 (zof_s6 (zcv_b (j := k - (p + 1 + 1) + 1) (by omega) (zs6_32 d6) za.1 zb.1 zc.1) (zcv_b (j := k - (p + 1 + 1) + 1) (by omega) (zs6_32 d7) za.2 zb.2 zc.2))
          exact ⟨rfl, rfl, rfl, hb.1, hb.2⟩
      · rw [zf_in (by omega) (by omega), if_pos ⟨by decide, rfl⟩]
      · rw [zf_lo (by omega), pk_us]
      · rw [zf_in (by omega) (by omega), zf_in (by omega) (by omega), if_neg (fun z => by omega)]
        exact ⟨rfl, rfl⟩
      · refine ⟨hi, nm_r ev ⟨hi, nm_r ek (br_f (by decide) (br_f (by decide) (br_f (by decide) (br_t rfl ?_))))⟩⟩
        unfold wY_execute_245 wpY_operate
        refine y_check (by decide) hh hp48 (zst_k hS) rfl hmn (fun z => absurd hE z) (fun _ z => absurd z (by decide)) (fun _ _ _ => hYp _ (fun z => absurd ⟨q1, q2, q3⟩ z) (fun _ _ _ => y_ckP (g := 0) (q := 9) rfl hh z1 hmn hp48 rfl (by omega) rfl (by omega) (by decide) (by decide) (by decide) (by decide) (by decide) (by decide) (by decide) (by decide) (by decide) (by decide) (by decide) (by decide) (by decide) (fun z => by omega) (fun _ z => absurd rfl z) (fun _ _ => br_t rfl ?_)))
        refine br_t (by decide) (br_t (by decide) (br_t (by decide) (br_t (by decide) (?_))))
        unfold wY_operate_71
        exact y_path (m := p + 1) (q := 9) (n := 6) (g := 0) (by decide) (by decide) rfl z1 rfl (by omega) (by omega) (Or.inr rfl) (by decide) rfl rfl hmn (by omega) (by omega) hp48 (fun z => absurd z (by decide)) (fun _ => br_f (by decide) (nm_e hp))
    · by_cases q : zof (ZDX mA mB oX (sv (h - 1 - (4 + 1))).toInt64 (sv (h - 1 - 4)).toInt64) (ZDX mA mB oY (sv (h - 1 - 4)).toInt64 (-(sv (h - 1 - (4 + 1))).toInt64)) = 0 ∧ zof (ZDX mA mB oX (sv (h - 1 - (2 + 1))).toInt64 (sv (h - 1 - 2)).toInt64) (ZDX mA mB oY (sv (h - 1 - 2)).toInt64 (-(sv (h - 1 - (2 + 1))).toInt64)) = 0 ∧ zof (ZDX mA mB oX (sv (h - 1 - (0 + 1))).toInt64 (sv (h - 1 - 0)).toInt64) (ZDX mA mB oY (sv (h - 1 - 0)).toInt64 (-(sv (h - 1 - (0 + 1))).toInt64)) = 0
      · exact x_153e (by decide) (H 7 _ (nI t, 0, nI h, nI n, nI a, 7, -1, nI (s + 1), nI c, nI (1 + 8), 0, 1, 0, tk, tv, dg, sk, sv, vk, vv, hw, fr, og, lf, st, la, fm, fc, gr, wi, mn, qx, qy, ss, cl, cp, zf (upd nx 0 ((px (Zft ss p)).toInt64).toInt32) 1 (1 + 8) (zcg 1 (px (Zcu ss cl p)).toInt64 (ZDX mA mB oX (sv (h - 1 - (4 + 1))).toInt64 (sv (h - 1 - 4)).toInt64) (ZDX mA mB oX (sv (h - 1 - (2 + 1))).toInt64 (sv (h - 1 - 2)).toInt64) (ZDX mA mB oX (sv (h - 1 - (0 + 1))).toInt64 (sv (h - 1 - 0)).toInt64)), zf (upd ny 0 ((py (Zft ss p)).toInt64).toInt32) 1 (1 + 8) (zcg 1 (py (Zcu ss cl p)).toInt64 (ZDX mA mB oY (sv (h - 1 - 4)).toInt64 (-(sv (h - 1 - (4 + 1))).toInt64)) (ZDX mA mB oY (sv (h - 1 - 2)).toInt64 (-(sv (h - 1 - (2 + 1))).toInt64)) (ZDX mA mB oY (sv (h - 1 - 0)).toInt64 (-(sv (h - 1 - (0 + 1))).toInt64)))) (zs_er hR' (by decide)) (fun PY hp => hY7 PY h48 (fun z => absurd q z) (fun _ => hp)))
      · exact x_153e (by decide) (H 7 _ (nI t, 0, nI h, nI n, nI a, 7, -1, nI (s + 1), nI c, nI (0 + 1), 0, 1, 1, tk, tv, dg, sk, sv, vk, vv, hw, fr, og, lf, st, la, fm, fc, gr, wi, mn, qx, qy, ss, cl, cp, (upd nx 0 ((px (Zft ss p)).toInt64).toInt32), (upd ny 0 ((py (Zft ss p)).toInt64).toInt32)) (zs_er hR' (by decide)) (fun PY hp => hY7 PY h48 (fun _ => hp) (fun z => absurd z q)))
end
end
section
section
variable {tc ob ps su ep sd bc mA mB oX oY gY wD pC sC yt yo yh yi ya ye yp ys yc nw gn bg wd : Int32} {tk tv cb sk sv vk vv bp br bh bn bs bl px py pm cr sn sx sy sm sp dg hw fr og lf st la fm fc gr wi mn qx qy ss cl cp nx ny : Nat → Int32}
def zbx (k : Nat) (x w : Int64) : Int64 := if k = 1 ∨ k = 2 then x + w else x
def zby (k : Nat) (y w : Int64) : Int64 := if 2 ≤ k then y + w else y
theorem x_boxX {post : Int64 → Prop} {h k : Nat} (hs : sd = nI h) (hh : h ≤ 24) (h4 : 4 ≤ h) (hk : k < 4) (kk : post (zbx k (sv (h - 1 - 3)).toInt64 (sv (h - 1 - 1)).toInt64)) : wpX_boxX post (tc, ob, ps, su, ep, sd, bc, mA, mB, oX, oY, gY, wD, pC, sC, tk, tv, cb, sk, sv, vk, vv, bp, br, bh, bn, bs, bl, px, py, pm, cr, sn, sx, sy, sm, sp, dg) (nI k) := by
  unfold wpX_boxX wX_boxX_17
  unfold zbx at kk
  refine x_operand (j := 3) hs rfl hh (by omega) (pk_eq k 1 (fun e => x_operand (j := 1) hs rfl hh (by omega) ?_) (fun e => pk_eq k 2 (fun e2 => x_operand (j := 1) hs rfl hh (by omega) ?_) (fun e2 => ?_)))
  · rw [if_pos (Or.inl e)] at kk; exact kk
  · rw [if_pos (Or.inr e2)] at kk; exact kk
  · rw [if_neg (fun z => z.elim e e2)] at kk; exact kk
theorem x_boxY {post : Int64 → Prop} {h k : Nat} (hs : sd = nI h) (hh : h ≤ 24) (h4 : 4 ≤ h) (hk : k < 4) (kk : post (zby k (sv (h - 1 - 2)).toInt64 (sv (h - 1 - 0)).toInt64)) : wpX_boxY post (tc, ob, ps, su, ep, sd, bc, mA, mB, oX, oY, gY, wD, pC, sC, tk, tv, cb, sk, sv, vk, vv, bp, br, bh, bn, bs, bl, px, py, pm, cr, sn, sx, sy, sm, sp, dg) (nI k) := by
  unfold wpX_boxY
  unfold zby at kk
  refine x_operand (j := 2) hs rfl hh (by omega) (pk_lt k 2 (fun e => ?_) (fun e => x_operand (j := 0) hs rfl hh (by omega) ?_))
  · rw [if_neg (by omega)] at kk; exact kk
  · rw [if_pos e] at kk; exact kk
theorem x_box63 {post : Int32 → SX → Prop} {h : Nat} (hs : sd = nI h) (hh : h ≤ 24) (h4 : 4 ≤ h) (K : post 0 (tc, ob, ps, su, ep, sd, bc, mA, mB, oX, oY, gY, wD, nI 4, sC, tk, tv, cb, sk, sv, vk, vv, bp, br, bh, bn, bs, bl, zf px 0 4 (fun i => (ZDX mA mB oX (zbx i (sv (h - 1 - 3)).toInt64 (sv (h - 1 - 1)).toInt64) (zby i (sv (h - 1 - 2)).toInt64 (sv (h - 1 - 0)).toInt64)).toInt32), zf py 0 4 (fun i => (ZDX mA mB oY (zby i (sv (h - 1 - 2)).toInt64 (sv (h - 1 - 0)).toInt64) (-(zbx i (sv (h - 1 - 3)).toInt64 (sv (h - 1 - 1)).toInt64))).toInt32), zf pm 0 4 (fun i => if i = 0 then 3 else 2), cr, sn, sx, sy, sm, sp, dg)) :
    ∀ d k, k + d = 4 → wX_drawBox_63 post (d + 1) (nI k) tc ob ps su ep sd bc mA mB oX oY gY wD (nI k) sC tk tv cb sk sv vk vv bp br bh bn bs bl (zf px 0 k (fun i => (ZDX mA mB oX (zbx i (sv (h - 1 - 3)).toInt64 (sv (h - 1 - 1)).toInt64) (zby i (sv (h - 1 - 2)).toInt64 (sv (h - 1 - 0)).toInt64)).toInt32)) (zf py 0 k (fun i => (ZDX mA mB oY (zby i (sv (h - 1 - 2)).toInt64 (sv (h - 1 - 0)).toInt64) (-(zbx i (sv (h - 1 - 3)).toInt64 (sv (h - 1 - 1)).toInt64))).toInt32)) (zf pm 0 k (fun i => if i = 0 then 3 else 2)) cr sn sx sy sm sp dg := by
  intro d
  induction d with
  | zero =>
    intro k hk
    have : k = 4 := by omega
    subst this
    exact ql_t 4 4 (by omega) K
  | succ d ih =>
    intro k hk
    have go : ∀ z : Int32, z = (if k = 0 then 3 else 2) → wX_drawBox_113 post (wX_drawBox_63 post (d + 1)) (nI k) z (ZDX mA mB oY (zby k (sv (h - 1 - 2)).toInt64 (sv (h - 1 - 0)).toInt64) (-(zbx k (sv (h - 1 - 3)).toInt64 (sv (h - 1 - 1)).toInt64))) (ZDX mA mB oX (zbx k (sv (h - 1 - 3)).toInt64 (sv (h - 1 - 1)).toInt64) (zby k (sv (h - 1 - 2)).toInt64 (sv (h - 1 - 0)).toInt64)) tc ob ps su ep sd bc mA mB oX oY gY wD (nI k) sC tk tv cb sk sv vk vv bp br bh bn bs bl (zf px 0 k (fun i => (ZDX mA mB oX (zbx i (sv (h - 1 - 3)).toInt64 (sv (h - 1 - 1)).toInt64) (zby i (sv (h - 1 - 2)).toInt64 (sv (h - 1 - 0)).toInt64)).toInt32)) (zf py 0 k (fun i => (ZDX mA mB oY (zby i (sv (h - 1 - 2)).toInt64 (sv (h - 1 - 0)).toInt64) (-(zbx i (sv (h - 1 - 3)).toInt64 (sv (h - 1 - 1)).toInt64))).toInt32)) (zf pm 0 k (fun i => if i = 0 then 3 else 2)) cr sn sx sy sm sp dg := by
      intro z hz
      unfold wX_drawBox_113
      refine x_append rfl (by omega) (nm_r (nI_1 k) ?_)
      have s1 := zf_e (a := px) (j := 0) (e := k) (g := (fun i => (ZDX mA mB oX (zbx i (sv (h - 1 - 3)).toInt64 (sv (h - 1 - 1)).toInt64) (zby i (sv (h - 1 - 2)).toInt64 (sv (h - 1 - 0)).toInt64)).toInt32)) (by omega)
      have s2 := zf_e (a := py) (j := 0) (e := k) (g := (fun i => (ZDX mA mB oY (zby i (sv (h - 1 - 2)).toInt64 (sv (h - 1 - 0)).toInt64) (-(zbx i (sv (h - 1 - 3)).toInt64 (sv (h - 1 - 1)).toInt64))).toInt32)) (by omega)
      have s3 := zf_e (a := pm) (j := 0) (e := k) (g := fun i => if i = 0 then 3 else 2) (by omega)
      rw [hz, s1, s2, s3]
      exact ih (k + 1) (by omega)
    refine ql_f 4 k (by omega) (x_boxX hs hh h4 (by omega) (x_boxY hs hh h4 (by omega) (x_deviceX (x_deviceY (pk_eq k 0 (fun e => go 3 ?_) (fun e => go 2 ?_))))))
    · rw [if_pos e]
    · rw [if_neg e]
theorem x_box2 {post : Int32 → SX → Prop} {h : Nat} (hs : sd = nI h) (hh : h ≤ 24) (h4 : 4 ≤ h) (hz : ∀ j, j < 4 → zof (ZDX mA mB oX (zbx j (sv (h - 1 - 3)).toInt64 (sv (h - 1 - 1)).toInt64) (zby j (sv (h - 1 - 2)).toInt64 (sv (h - 1 - 0)).toInt64)) (ZDX mA mB oY (zby j (sv (h - 1 - 2)).toInt64 (sv (h - 1 - 0)).toInt64) (-(zbx j (sv (h - 1 - 3)).toInt64 (sv (h - 1 - 1)).toInt64))) = 0) (K : post 0 (tc, ob, ps, su, ep, sd, bc, mA, mB, oX, oY, gY, wD, nI 4, sC, tk, tv, cb, sk, sv, vk, vv, bp, br, bh, bn, bs, bl, zf px 0 4 (fun i => (ZDX mA mB oX (zbx i (sv (h - 1 - 3)).toInt64 (sv (h - 1 - 1)).toInt64) (zby i (sv (h - 1 - 2)).toInt64 (sv (h - 1 - 0)).toInt64)).toInt32), zf py 0 4 (fun i => (ZDX mA mB oY (zby i (sv (h - 1 - 2)).toInt64 (sv (h - 1 - 0)).toInt64) (-(zbx i (sv (h - 1 - 3)).toInt64 (sv (h - 1 - 1)).toInt64))).toInt32), zf pm 0 4 (fun i => if i = 0 then 3 else 2), cr, sn, sx, sy, sm, sp, dg)) :
    ∀ d k, k + d = 4 → wX_drawBox_2 post tc ob ps su ep sd bc mA mB oX oY gY wD pC sC tk tv cb sk sv vk vv bp br bh bn bs bl px py pm cr sn sx sy sm sp dg (d + 1) (nI k) := by
  intro d
  induction d with
  | zero =>
    intro k hk
    have L := x_box63 (post := post) hs hh h4 K 4 0 rfl
    rw [zf_z, zf_z, zf_z] at L
    exact ql_t 4 k (by omega) ⟨5, L⟩
  | succ d ih =>
    intro k hk
    exact ql_f 4 k (by omega) (x_boxX hs hh h4 (by omega) (x_boxY hs hh h4 (by omega) (x_deviceX (x_deviceY (x_off (br_t (hz k (by omega)) (nm_r (nI_1 k) (ih (k + 1) (by omega)))))))))
theorem x_box2e {post : Int32 → SX → Prop} {h : Nat} (hs : sd = nI h) (hh : h ≤ 24) (h4 : 4 ≤ h) (K : post 5 (tc, ob, ps, su, ep, sd, bc, mA, mB, oX, oY, gY, wD, pC, sC, tk, tv, cb, sk, sv, vk, vv, bp, br, bh, bn, bs, bl, px, py, pm, cr, sn, sx, sy, sm, sp, dg)) :
    ∀ d k, k + d = 4 → (∃ j, k ≤ j ∧ j < 4 ∧ zof (ZDX mA mB oX (zbx j (sv (h - 1 - 3)).toInt64 (sv (h - 1 - 1)).toInt64) (zby j (sv (h - 1 - 2)).toInt64 (sv (h - 1 - 0)).toInt64)) (ZDX mA mB oY (zby j (sv (h - 1 - 2)).toInt64 (sv (h - 1 - 0)).toInt64) (-(zbx j (sv (h - 1 - 3)).toInt64 (sv (h - 1 - 1)).toInt64))) ≠ 0) → wX_drawBox_2 post tc ob ps su ep sd bc mA mB oX oY gY wD pC sC tk tv cb sk sv vk vv bp br bh bn bs bl px py pm cr sn sx sy sm sp dg (d + 1) (nI k) := by
  intro d
  induction d with
  | zero =>
    intro k hk hj
    obtain ⟨j, h1, h2, _⟩ := hj
    omega
  | succ d ih =>
    intro k hk hj
    refine ql_f 4 k (by omega) (x_boxX hs hh h4 (by omega) (x_boxY hs hh h4 (by omega) (x_deviceX (x_deviceY (x_off (br_c (fun e => nm_r (nI_1 k) (ih (k + 1) (by omega) ?_)) (fun e => K)))))))
    obtain ⟨j, h1, h2, h3⟩ := hj
    refine ⟨j, ?_, h2, h3⟩
    by_cases ej : j = k
    · rw [ej] at h3; exact absurd e h3
    · omega
theorem zor_4 {a b c d : Int32} (ha : a = 0 ∨ a = 1) (hb : b = 0 ∨ b = 1) (hc : c = 0 ∨ c = 1) (hd : d = 0 ∨ d = 1) : (((0 ||| a) ||| b) ||| c) ||| d = 0 ↔ a = 0 ∧ b = 0 ∧ c = 0 ∧ d = 0 := by
  rcases ha with rfl | rfl <;> rcases hb with rfl | rfl <;> rcases hc with rfl | rfl <;> rcases hd with rfl | rfl <;> decide
theorem zor_b {a b : Int32} (ha : a = 0 ∨ a = 1) (hb : b = 0 ∨ b = 1) : (a ||| b) = 0 ∨ (a ||| b) = 1 := by
  rcases ha with rfl | rfl <;> rcases hb with rfl | rfl <;> decide
theorem st_box {t h n a c s pc : Nat} {PX : Int32 → SX → Prop} (hR : ZR t h n a c mA mB oX oY gY wD pC tk tv cb sk sv vk vv bp br bh bn bs bl px py pm cr sn sx sy sm sp hw fr og lf st la fm fc gr wi mn qx qy ss cl cp) (ha : a < t) (hk : tk a = 1) (hv : tv a = nI 44) (hpc : pC = nI pc) (hp48 : pc ≤ 48) (hE : ZE1 44 h sk pc = 0)
    (H : ∀ (e : Int32) (u' : SX) (v' : SY), ZStep a (s + 1) e u' v' → (∀ PY : SY → Prop, PY v' → wpY_execute PY (nI t, 0, nI h, nI n, nI a, 0, -1, nI (s + 1), nI c, nw, gn, bg, wd, tk, tv, dg, sk, sv, vk, vv, hw, fr, og, lf, st, la, fm, fc, gr, wi, mn, qx, qy, ss, cl, cp, nx, ny)) → PX e u') : wpX_execute PX (nI t, 0, nI a, nI s, -1, nI h, nI n, mA, mB, oX, oY, gY, wD, pC, nI c, tk, tv, cb, sk, sv, vk, vv, bp, br, bh, bn, bs, bl, px, py, pm, cr, sn, sx, sy, sm, sp, dg) (nI a) := by
  have hR' := hR
  obtain ⟨hT, hS, hV, hF, hPO, hG, hSV⟩ := hR
  have ht := hT.1
  have hh := hS.1
  have hmn := zg_mn hG hpc
  have hi : vp_in (nI a) 100 := vp_in_nI (by omega) (by omega)
  have e : (nI a).toNatClampNeg = a := zc_i (by omega)
  have ek : tk (nI a).toNatClampNeg = 1 := by rw [e]; exact hk
  have ev : tv (nI a).toNatClampNeg = nI 44 := by rw [e]; exact hv
  have hpn := po_next hPO ha (by rw [hk]; decide) (by rw [hk]; decide)
  obtain ⟨z1, z2, z3, z4⟩ := ze_0 hE
  have z1 : 4 ≤ h := z1
  have z01 : ∀ k, zof (ZDX mA mB oX (zbx k (sv (h - 1 - 3)).toInt64 (sv (h - 1 - 1)).toInt64) (zby k (sv (h - 1 - 2)).toInt64 (sv (h - 1 - 0)).toInt64)) (ZDX mA mB oY (zby k (sv (h - 1 - 2)).toInt64 (sv (h - 1 - 0)).toInt64) (-(zbx k (sv (h - 1 - 3)).toInt64 (sv (h - 1 - 1)).toInt64))) = 0 ∨ zof (ZDX mA mB oX (zbx k (sv (h - 1 - 3)).toInt64 (sv (h - 1 - 1)).toInt64) (zby k (sv (h - 1 - 2)).toInt64 (sv (h - 1 - 0)).toInt64)) (ZDX mA mB oY (zby k (sv (h - 1 - 2)).toInt64 (sv (h - 1 - 0)).toInt64) (-(zbx k (sv (h - 1 - 3)).toInt64 (sv (h - 1 - 1)).toInt64))) = 1 := fun k => zof_01 _ _
  have hall : ((((0 ||| zof (ZDX mA mB oX (zbx 0 (sv (h - 1 - 3)).toInt64 (sv (h - 1 - 1)).toInt64) (zby 0 (sv (h - 1 - 2)).toInt64 (sv (h - 1 - 0)).toInt64)) (ZDX mA mB oY (zby 0 (sv (h - 1 - 2)).toInt64 (sv (h - 1 - 0)).toInt64) (-(zbx 0 (sv (h - 1 - 3)).toInt64 (sv (h - 1 - 1)).toInt64)))) ||| zof (ZDX mA mB oX (zbx 1 (sv (h - 1 - 3)).toInt64 (sv (h - 1 - 1)).toInt64) (zby 1 (sv (h - 1 - 2)).toInt64 (sv (h - 1 - 0)).toInt64)) (ZDX mA mB oY (zby 1 (sv (h - 1 - 2)).toInt64 (sv (h - 1 - 0)).toInt64) (-(zbx 1 (sv (h - 1 - 3)).toInt64 (sv (h - 1 - 1)).toInt64)))) ||| zof (ZDX mA mB oX (zbx 2 (sv (h - 1 - 3)).toInt64 (sv (h - 1 - 1)).toInt64) (zby 2 (sv (h - 1 - 2)).toInt64 (sv (h - 1 - 0)).toInt64)) (ZDX mA mB oY (zby 2 (sv (h - 1 - 2)).toInt64 (sv (h - 1 - 0)).toInt64) (-(zbx 2 (sv (h - 1 - 3)).toInt64 (sv (h - 1 - 1)).toInt64)))) ||| zof (ZDX mA mB oX (zbx 3 (sv (h - 1 - 3)).toInt64 (sv (h - 1 - 1)).toInt64) (zby 3 (sv (h - 1 - 2)).toInt64 (sv (h - 1 - 0)).toInt64)) (ZDX mA mB oY (zby 3 (sv (h - 1 - 2)).toInt64 (sv (h - 1 - 0)).toInt64) (-(zbx 3 (sv (h - 1 - 3)).toInt64 (sv (h - 1 - 1)).toInt64)))) = 0 ↔ ∀ j, j < 4 → zof (ZDX mA mB oX (zbx j (sv (h - 1 - 3)).toInt64 (sv (h - 1 - 1)).toInt64) (zby j (sv (h - 1 - 2)).toInt64 (sv (h - 1 - 0)).toInt64)) (ZDX mA mB oY (zby j (sv (h - 1 - 2)).toInt64 (sv (h - 1 - 0)).toInt64) (-(zbx j (sv (h - 1 - 3)).toInt64 (sv (h - 1 - 1)).toInt64))) = 0 := by
    rw [zor_4 (z01 0) (z01 1) (z01 2) (z01 3)]
    refine ⟨fun z j hj => ?_, fun z => ⟨z 0 (by omega), z 1 (by omega), z 2 (by omega), z 3 (by omega)⟩⟩
    have hj4 : j = 0 ∨ j = 1 ∨ j = 2 ∨ j = 3 := by omega
    rcases hj4 with rfl | rfl | rfl | rfl
    · exact z.1
    · exact z.2.1
    · exact z.2.2.1
    · exact z.2.2.2
  have hYp : ∀ Q : Int32 → SY → Prop, wY_check_129 Q (nI 44) (nI 4) (nI t) 0 (nI h) (nI n) (nI a) 0 (-1) (nI (s + 1)) (nI c) (nI (3 + 1)) (mn 0) 1 ((((0 ||| zof (ZDX mA mB oX (zbx 0 (sv (h - 1 - 3)).toInt64 (sv (h - 1 - 1)).toInt64) (zby 0 (sv (h - 1 - 2)).toInt64 (sv (h - 1 - 0)).toInt64)) (ZDX mA mB oY (zby 0 (sv (h - 1 - 2)).toInt64 (sv (h - 1 - 0)).toInt64) (-(zbx 0 (sv (h - 1 - 3)).toInt64 (sv (h - 1 - 1)).toInt64)))) ||| zof (ZDX mA mB oX (zbx 1 (sv (h - 1 - 3)).toInt64 (sv (h - 1 - 1)).toInt64) (zby 1 (sv (h - 1 - 2)).toInt64 (sv (h - 1 - 0)).toInt64)) (ZDX mA mB oY (zby 1 (sv (h - 1 - 2)).toInt64 (sv (h - 1 - 0)).toInt64) (-(zbx 1 (sv (h - 1 - 3)).toInt64 (sv (h - 1 - 1)).toInt64)))) ||| zof (ZDX mA mB oX (zbx 2 (sv (h - 1 - 3)).toInt64 (sv (h - 1 - 1)).toInt64) (zby 2 (sv (h - 1 - 2)).toInt64 (sv (h - 1 - 0)).toInt64)) (ZDX mA mB oY (zby 2 (sv (h - 1 - 2)).toInt64 (sv (h - 1 - 0)).toInt64) (-(zbx 2 (sv (h - 1 - 3)).toInt64 (sv (h - 1 - 1)).toInt64)))) ||| zof (ZDX mA mB oX (zbx 3 (sv (h - 1 - 3)).toInt64 (sv (h - 1 - 1)).toInt64) (zby 3 (sv (h - 1 - 2)).toInt64 (sv (h - 1 - 0)).toInt64)) (ZDX mA mB oY (zby 3 (sv (h - 1 - 2)).toInt64 (sv (h - 1 - 0)).toInt64) (-(zbx 3 (sv (h - 1 - 3)).toInt64 (sv (h - 1 - 1)).toInt64)))) tk tv dg sk sv vk vv hw fr og lf st la fm fc gr wi mn qx qy ss cl cp (upd (upd (upd (upd nx 0 (ZDX mA mB oX (zbx 0 (sv (h - 1 - 3)).toInt64 (sv (h - 1 - 1)).toInt64) (zby 0 (sv (h - 1 - 2)).toInt64 (sv (h - 1 - 0)).toInt64)).toInt32) 1 (ZDX mA mB oX (zbx 1 (sv (h - 1 - 3)).toInt64 (sv (h - 1 - 1)).toInt64) (zby 1 (sv (h - 1 - 2)).toInt64 (sv (h - 1 - 0)).toInt64)).toInt32) 2 (ZDX mA mB oX (zbx 2 (sv (h - 1 - 3)).toInt64 (sv (h - 1 - 1)).toInt64) (zby 2 (sv (h - 1 - 2)).toInt64 (sv (h - 1 - 0)).toInt64)).toInt32) 3 (ZDX mA mB oX (zbx 3 (sv (h - 1 - 3)).toInt64 (sv (h - 1 - 1)).toInt64) (zby 3 (sv (h - 1 - 2)).toInt64 (sv (h - 1 - 0)).toInt64)).toInt32) (upd (upd (upd (upd ny 0 (ZDX mA mB oY (zby 0 (sv (h - 1 - 2)).toInt64 (sv (h - 1 - 0)).toInt64) (-(zbx 0 (sv (h - 1 - 3)).toInt64 (sv (h - 1 - 1)).toInt64))).toInt32) 1 (ZDX mA mB oY (zby 1 (sv (h - 1 - 2)).toInt64 (sv (h - 1 - 0)).toInt64) (-(zbx 1 (sv (h - 1 - 3)).toInt64 (sv (h - 1 - 1)).toInt64))).toInt32) 2 (ZDX mA mB oY (zby 2 (sv (h - 1 - 2)).toInt64 (sv (h - 1 - 0)).toInt64) (-(zbx 2 (sv (h - 1 - 3)).toInt64 (sv (h - 1 - 1)).toInt64))).toInt32) 3 (ZDX mA mB oY (zby 3 (sv (h - 1 - 2)).toInt64 (sv (h - 1 - 0)).toInt64) (-(zbx 3 (sv (h - 1 - 3)).toInt64 (sv (h - 1 - 1)).toInt64))).toInt32) → wY_check_87 Q (nI 44) (nI (ztk 44)) (nI t) 0 (nI h) (nI n) (nI a) 0 (-1) (nI (s + 1)) (nI c) nw gn bg wd tk tv dg sk sv vk vv hw fr og lf st la fm fc gr wi mn qx qy ss cl cp nx ny := by
    intro Q k
    have g0 : (0 : Int32) = 0 ∨ (0 : Int32) = 1 := Or.inl rfl
    have g1 : (0 ||| zof (ZDX mA mB oX (zbx 0 (sv (h - 1 - 3)).toInt64 (sv (h - 1 - 1)).toInt64) (zby 0 (sv (h - 1 - 2)).toInt64 (sv (h - 1 - 0)).toInt64)) (ZDX mA mB oY (zby 0 (sv (h - 1 - 2)).toInt64 (sv (h - 1 - 0)).toInt64) (-(zbx 0 (sv (h - 1 - 3)).toInt64 (sv (h - 1 - 1)).toInt64)))) = 0 ∨ (0 ||| zof (ZDX mA mB oX (zbx 0 (sv (h - 1 - 3)).toInt64 (sv (h - 1 - 1)).toInt64) (zby 0 (sv (h - 1 - 2)).toInt64 (sv (h - 1 - 0)).toInt64)) (ZDX mA mB oY (zby 0 (sv (h - 1 - 2)).toInt64 (sv (h - 1 - 0)).toInt64) (-(zbx 0 (sv (h - 1 - 3)).toInt64 (sv (h - 1 - 1)).toInt64)))) = 1 := zor_b g0 (z01 0)
    have g2 : ((0 ||| zof (ZDX mA mB oX (zbx 0 (sv (h - 1 - 3)).toInt64 (sv (h - 1 - 1)).toInt64) (zby 0 (sv (h - 1 - 2)).toInt64 (sv (h - 1 - 0)).toInt64)) (ZDX mA mB oY (zby 0 (sv (h - 1 - 2)).toInt64 (sv (h - 1 - 0)).toInt64) (-(zbx 0 (sv (h - 1 - 3)).toInt64 (sv (h - 1 - 1)).toInt64)))) ||| zof (ZDX mA mB oX (zbx 1 (sv (h - 1 - 3)).toInt64 (sv (h - 1 - 1)).toInt64) (zby 1 (sv (h - 1 - 2)).toInt64 (sv (h - 1 - 0)).toInt64)) (ZDX mA mB oY (zby 1 (sv (h - 1 - 2)).toInt64 (sv (h - 1 - 0)).toInt64) (-(zbx 1 (sv (h - 1 - 3)).toInt64 (sv (h - 1 - 1)).toInt64)))) = 0 ∨ ((0 ||| zof (ZDX mA mB oX (zbx 0 (sv (h - 1 - 3)).toInt64 (sv (h - 1 - 1)).toInt64) (zby 0 (sv (h - 1 - 2)).toInt64 (sv (h - 1 - 0)).toInt64)) (ZDX mA mB oY (zby 0 (sv (h - 1 - 2)).toInt64 (sv (h - 1 - 0)).toInt64) (-(zbx 0 (sv (h - 1 - 3)).toInt64 (sv (h - 1 - 1)).toInt64)))) ||| zof (ZDX mA mB oX (zbx 1 (sv (h - 1 - 3)).toInt64 (sv (h - 1 - 1)).toInt64) (zby 1 (sv (h - 1 - 2)).toInt64 (sv (h - 1 - 0)).toInt64)) (ZDX mA mB oY (zby 1 (sv (h - 1 - 2)).toInt64 (sv (h - 1 - 0)).toInt64) (-(zbx 1 (sv (h - 1 - 3)).toInt64 (sv (h - 1 - 1)).toInt64)))) = 1 := zor_b g1 (z01 1)
    have g3 : (((0 ||| zof (ZDX mA mB oX (zbx 0 (sv (h - 1 - 3)).toInt64 (sv (h - 1 - 1)).toInt64) (zby 0 (sv (h - 1 - 2)).toInt64 (sv (h - 1 - 0)).toInt64)) (ZDX mA mB oY (zby 0 (sv (h - 1 - 2)).toInt64 (sv (h - 1 - 0)).toInt64) (-(zbx 0 (sv (h - 1 - 3)).toInt64 (sv (h - 1 - 1)).toInt64)))) ||| zof (ZDX mA mB oX (zbx 1 (sv (h - 1 - 3)).toInt64 (sv (h - 1 - 1)).toInt64) (zby 1 (sv (h - 1 - 2)).toInt64 (sv (h - 1 - 0)).toInt64)) (ZDX mA mB oY (zby 1 (sv (h - 1 - 2)).toInt64 (sv (h - 1 - 0)).toInt64) (-(zbx 1 (sv (h - 1 - 3)).toInt64 (sv (h - 1 - 1)).toInt64)))) ||| zof (ZDX mA mB oX (zbx 2 (sv (h - 1 - 3)).toInt64 (sv (h - 1 - 1)).toInt64) (zby 2 (sv (h - 1 - 2)).toInt64 (sv (h - 1 - 0)).toInt64)) (ZDX mA mB oY (zby 2 (sv (h - 1 - 2)).toInt64 (sv (h - 1 - 0)).toInt64) (-(zbx 2 (sv (h - 1 - 3)).toInt64 (sv (h - 1 - 1)).toInt64)))) = 0 ∨ (((0 ||| zof (ZDX mA mB oX (zbx 0 (sv (h - 1 - 3)).toInt64 (sv (h - 1 - 1)).toInt64) (zby 0 (sv (h - 1 - 2)).toInt64 (sv (h - 1 - 0)).toInt64)) (ZDX mA mB oY (zby 0 (sv (h - 1 - 2)).toInt64 (sv (h - 1 - 0)).toInt64) (-(zbx 0 (sv (h - 1 - 3)).toInt64 (sv (h - 1 - 1)).toInt64)))) ||| zof (ZDX mA mB oX (zbx 1 (sv (h - 1 - 3)).toInt64 (sv (h - 1 - 1)).toInt64) (zby 1 (sv (h - 1 - 2)).toInt64 (sv (h - 1 - 0)).toInt64)) (ZDX mA mB oY (zby 1 (sv (h - 1 - 2)).toInt64 (sv (h - 1 - 0)).toInt64) (-(zbx 1 (sv (h - 1 - 3)).toInt64 (sv (h - 1 - 1)).toInt64)))) ||| zof (ZDX mA mB oX (zbx 2 (sv (h - 1 - 3)).toInt64 (sv (h - 1 - 1)).toInt64) (zby 2 (sv (h - 1 - 2)).toInt64 (sv (h - 1 - 0)).toInt64)) (ZDX mA mB oY (zby 2 (sv (h - 1 - 2)).toInt64 (sv (h - 1 - 0)).toInt64) (-(zbx 2 (sv (h - 1 - 3)).toInt64 (sv (h - 1 - 1)).toInt64)))) = 1 := zor_b g2 (z01 2)
    refine br_f (by decide) (br_t rfl (y_top (j := 3) rfl rfl hh (by omega) (y_top (j := 2) rfl rfl hh (by omega) (y_top (j := 1) rfl rfl hh (by omega) (y_top (j := 0) rfl rfl hh (by omega) (nm_e ?_))))))
    refine y_planUser (q := 0) (x := (zbx 0 (sv (h - 1 - 3)).toInt64 (sv (h - 1 - 1)).toInt64)) (y := (zby 0 (sv (h - 1 - 2)).toInt64 (sv (h - 1 - 0)).toInt64)) hG.1 rfl (by omega) g0 ?_
    refine y_planUser (q := 1) (x := (zbx 1 (sv (h - 1 - 3)).toInt64 (sv (h - 1 - 1)).toInt64)) (y := (zby 1 (sv (h - 1 - 2)).toInt64 (sv (h - 1 - 0)).toInt64)) hG.1 rfl (by omega) g1 ?_
    refine y_planUser (q := 2) (x := (zbx 2 (sv (h - 1 - 3)).toInt64 (sv (h - 1 - 1)).toInt64)) (y := (zby 2 (sv (h - 1 - 2)).toInt64 (sv (h - 1 - 0)).toInt64)) hG.1 rfl (by omega) g2 ?_
    refine y_planUser (q := 3) (x := (zbx 3 (sv (h - 1 - 3)).toInt64 (sv (h - 1 - 1)).toInt64)) (y := (zby 3 (sv (h - 1 - 2)).toInt64 (sv (h - 1 - 0)).toInt64)) hG.1 rfl (by omega) g3 ?_
    exact br_f (by decide) (br_f (by decide) (br_f (by decide) k))
  refine nm_r (nI_1 s) (nm_r (nI_1 a) ⟨hi, br_t ek ⟨hi, nm_r ev (x_oe0 (by decide) hh hp48 rfl hpc hE (br_t rfl (br_t (by decide) (br_f (by decide) (br_f (by decide) (br_f (by decide) (br_t (by decide) (br_f (by decide) (br_f (by decide) (br_f (by decide) (br_f (by decide) (br_t rfl (?_)))))))))))))⟩⟩)
  unfold wX_execute_139 wpX_changePath
  refine x_opDX (j := 0) rfl rfl hh (by omega) (x_opDY (j := 0) rfl rfl hh (by omega) (br_f (by decide) (br_f (by decide) (br_f (by decide) (br_t (by decide) (?_))))))
  unfold wpX_drawBox
  by_cases hz : ∀ j, j < 4 → zof (ZDX mA mB oX (zbx j (sv (h - 1 - 3)).toInt64 (sv (h - 1 - 1)).toInt64) (zby j (sv (h - 1 - 2)).toInt64 (sv (h - 1 - 0)).toInt64)) (ZDX mA mB oY (zby j (sv (h - 1 - 2)).toInt64 (sv (h - 1 - 0)).toInt64) (-(zbx j (sv (h - 1 - 3)).toInt64 (sv (h - 1 - 1)).toInt64))) = 0
  · refine ⟨5, x_box2 rfl hh z1 hz (x_153 (n := 4) (by decide) rfl z1 rfl (H 0 _ (nI t, 0, nI (h - 4), nI n, nI a + 1, 0, -1, nI (s + 1), nI c, nI (3 + 1), mn 0, 1, ((((0 ||| zof (ZDX mA mB oX (zbx 0 (sv (h - 1 - 3)).toInt64 (sv (h - 1 - 1)).toInt64) (zby 0 (sv (h - 1 - 2)).toInt64 (sv (h - 1 - 0)).toInt64)) (ZDX mA mB oY (zby 0 (sv (h - 1 - 2)).toInt64 (sv (h - 1 - 0)).toInt64) (-(zbx 0 (sv (h - 1 - 3)).toInt64 (sv (h - 1 - 1)).toInt64)))) ||| zof (ZDX mA mB oX (zbx 1 (sv (h - 1 - 3)).toInt64 (sv (h - 1 - 1)).toInt64) (zby 1 (sv (h - 1 - 2)).toInt64 (sv (h - 1 - 0)).toInt64)) (ZDX mA mB oY (zby 1 (sv (h - 1 - 2)).toInt64 (sv (h - 1 - 0)).toInt64) (-(zbx 1 (sv (h - 1 - 3)).toInt64 (sv (h - 1 - 1)).toInt64)))) ||| zof (ZDX mA mB oX (zbx 2 (sv (h - 1 - 3)).toInt64 (sv (h - 1 - 1)).toInt64) (zby 2 (sv (h - 1 - 2)).toInt64 (sv (h - 1 - 0)).toInt64)) (ZDX mA mB oY (zby 2 (sv (h - 1 - 2)).toInt64 (sv (h - 1 - 0)).toInt64) (-(zbx 2 (sv (h - 1 - 3)).toInt64 (sv (h - 1 - 1)).toInt64)))) ||| zof (ZDX mA mB oX (zbx 3 (sv (h - 1 - 3)).toInt64 (sv (h - 1 - 1)).toInt64) (zby 3 (sv (h - 1 - 2)).toInt64 (sv (h - 1 - 0)).toInt64)) (ZDX mA mB oY (zby 3 (sv (h - 1 - 2)).toInt64 (sv (h - 1 - 0)).toInt64) (-(zbx 3 (sv (h - 1 - 3)).toInt64 (sv (h - 1 - 1)).toInt64)))), tk, tv, dg, sk, sv, vk, vv, hw, fr, og, lf, st, la, fm, fc, gr, wi, upd mn 0 (nI (0 + 4)), zf qx 0 (0 + 4) (fun i => (upd (upd (upd (upd nx 0 (ZDX mA mB oX (zbx 0 (sv (h - 1 - 3)).toInt64 (sv (h - 1 - 1)).toInt64) (zby 0 (sv (h - 1 - 2)).toInt64 (sv (h - 1 - 0)).toInt64)).toInt32) 1 (ZDX mA mB oX (zbx 1 (sv (h - 1 - 3)).toInt64 (sv (h - 1 - 1)).toInt64) (zby 1 (sv (h - 1 - 2)).toInt64 (sv (h - 1 - 0)).toInt64)).toInt32) 2 (ZDX mA mB oX (zbx 2 (sv (h - 1 - 3)).toInt64 (sv (h - 1 - 1)).toInt64) (zby 2 (sv (h - 1 - 2)).toInt64 (sv (h - 1 - 0)).toInt64)).toInt32) 3 (ZDX mA mB oX (zbx 3 (sv (h - 1 - 3)).toInt64 (sv (h - 1 - 1)).toInt64) (zby 3 (sv (h - 1 - 2)).toInt64 (sv (h - 1 - 0)).toInt64)).toInt32) (i - 0)), zf qy 0 (0 + 4) (fun i => (upd (upd (upd (upd ny 0 (ZDX mA mB oY (zby 0 (sv (h - 1 - 2)).toInt64 (sv (h - 1 - 0)).toInt64) (-(zbx 0 (sv (h - 1 - 3)).toInt64 (sv (h - 1 - 1)).toInt64))).toInt32) 1 (ZDX mA mB oY (zby 1 (sv (h - 1 - 2)).toInt64 (sv (h - 1 - 0)).toInt64) (-(zbx 1 (sv (h - 1 - 3)).toInt64 (sv (h - 1 - 1)).toInt64))).toInt32) 2 (ZDX mA mB oY (zby 2 (sv (h - 1 - 2)).toInt64 (sv (h - 1 - 0)).toInt64) (-(zbx 2 (sv (h - 1 - 3)).toInt64 (sv (h - 1 - 1)).toInt64))).toInt32) 3 (ZDX mA mB oY (zby 3 (sv (h - 1 - 2)).toInt64 (sv (h - 1 - 0)).toInt64) (-(zbx 3 (sv (h - 1 - 3)).toInt64 (sv (h - 1 - 1)).toInt64))).toInt32) (i - 0)), zf ss 0 (0 + 4) (fun i => if (1 : Int32) ≠ 0 ∧ i = 0 then 1 else 0), upd (zf cl 0 (0 + 4) (fun _ => 0)) 0 1, cp, upd (upd (upd (upd nx 0 (ZDX mA mB oX (zbx 0 (sv (h - 1 - 3)).toInt64 (sv (h - 1 - 1)).toInt64) (zby 0 (sv (h - 1 - 2)).toInt64 (sv (h - 1 - 0)).toInt64)).toInt32) 1 (ZDX mA mB oX (zbx 1 (sv (h - 1 - 3)).toInt64 (sv (h - 1 - 1)).toInt64) (zby 1 (sv (h - 1 - 2)).toInt64 (sv (h - 1 - 0)).toInt64)).toInt32) 2 (ZDX mA mB oX (zbx 2 (sv (h - 1 - 3)).toInt64 (sv (h - 1 - 1)).toInt64) (zby 2 (sv (h - 1 - 2)).toInt64 (sv (h - 1 - 0)).toInt64)).toInt32) 3 (ZDX mA mB oX (zbx 3 (sv (h - 1 - 3)).toInt64 (sv (h - 1 - 1)).toInt64) (zby 3 (sv (h - 1 - 2)).toInt64 (sv (h - 1 - 0)).toInt64)).toInt32, upd (upd (upd (upd ny 0 (ZDX mA mB oY (zby 0 (sv (h - 1 - 2)).toInt64 (sv (h - 1 - 0)).toInt64) (-(zbx 0 (sv (h - 1 - 3)).toInt64 (sv (h - 1 - 1)).toInt64))).toInt32) 1 (ZDX mA mB oY (zby 1 (sv (h - 1 - 2)).toInt64 (sv (h - 1 - 0)).toInt64) (-(zbx 1 (sv (h - 1 - 3)).toInt64 (sv (h - 1 - 1)).toInt64))).toInt32) 2 (ZDX mA mB oY (zby 2 (sv (h - 1 - 2)).toInt64 (sv (h - 1 - 0)).toInt64) (-(zbx 2 (sv (h - 1 - 3)).toInt64 (sv (h - 1 - 1)).toInt64))).toInt32) 3 (ZDX mA mB oY (zby 3 (sv (h - 1 - 2)).toInt64 (sv (h - 1 - 0)).toInt64) (-(zbx 3 (sv (h - 1 - 3)).toInt64 (sv (h - 1 - 1)).toInt64))).toInt32) (zs_ok ⟨hT, zst_le hS (by omega), hV, hF, hpn, zgs_path (q := 4) hG ?_, zsv_up hSV zr_i zr_i zr_i zr_i zr_u (fun i hi => zf_hi (by omega)) (fun i hi => zf_hi (by omega)) (fun i hi => zf_hi (by omega)) (fun i hi => by rw [pk_un (by omega)]; exact zf_hi (by omega)) zr_i⟩ rfl (nI_1 a) rfl rfl rfl rfl rfl rfl) (fun PY hp => ?_))) 4 0 rfl⟩
    · have es0 : (zf ss 0 (0 + 4) (fun i => if (1 : Int32) ≠ 0 ∧ i = 0 then 1 else 0)) 0 ≠ 0 := by
        rw [zf_in (by omega) (by omega), if_pos ⟨by decide, rfl⟩]
        decide
      have esk : ∀ k, 0 < k → k < 4 → (zf ss 0 (0 + 4) (fun i => if (1 : Int32) ≠ 0 ∧ i = 0 then 1 else 0)) k = 0 := fun k h1 h2 => by
        rw [zf_in (by omega) (by omega), if_neg (fun z => by omega)]
      refine ⟨by omega, fun _ => es0, fun k hk => ?_⟩
      have hf : Zft (zf ss 0 (0 + 4) (fun i => if (1 : Int32) ≠ 0 ∧ i = 0 then 1 else 0)) k = 0 := zft_beg es0 k (by omega) (fun j h1 h2 => esk j h1 (by omega))
      have hb := zof_0 (hz k hk)
      rw [hf, pk_us, zf_in (a := qx) (by omega) (by omega), zf_in (a := qy) (by omega) (by omega), zf_in (a := px) (by omega) (by omega), zf_in (a := py) (by omega) (by omega), zf_in (a := pm) (by omega) (by omega)]
      have hk4 : k = 0 ∨ k = 1 ∨ k = 2 ∨ k = 3 := by omega
      rcases hk4 with rfl | rfl | rfl | rfl
      · refine ⟨rfl, rfl, ?_, Or.inr rfl, ?_, hb.1, hb.2⟩
        · rw [zf_in (by omega) (by omega), if_pos ⟨by decide, rfl⟩]; exact Or.inr rfl
        · rw [show (zf ss 0 (0 + 4) (fun i => if (1 : Int32) ≠ 0 ∧ i = 0 then 1 else 0)) 0 = 1 by rw [zf_in (by omega) (by omega), if_pos ⟨by decide, rfl⟩]]; rfl
      · refine ⟨rfl, rfl, ?_, ?_, ?_, hb.1, hb.2⟩
        · rw [esk 1 (by omega) (by omega)]; exact Or.inl rfl
        · rw [pk_un (by omega), zf_in (by omega) (by omega)]; exact Or.inl rfl
        · rw [esk 1 (by omega) (by omega)]; rfl
      · refine ⟨rfl, rfl, ?_, ?_, ?_, hb.1, hb.2⟩
        · rw [esk 2 (by omega) (by omega)]; exact Or.inl rfl
        · rw [pk_un (by omega), zf_in (by omega) (by omega)]; exact Or.inl rfl
        · rw [esk 2 (by omega) (by omega)]; rfl
      · refine ⟨rfl, rfl, ?_, ?_, ?_, hb.1, hb.2⟩
        · rw [esk 3 (by omega) (by omega)]; exact Or.inl rfl
        · rw [pk_un (by omega), zf_in (by omega) (by omega)]; exact Or.inl rfl
        · rw [esk 3 (by omega) (by omega)]; rfl
    · refine ⟨hi, nm_r ev ⟨hi, nm_r ek (br_f (by decide) (br_f (by decide) (br_f (by decide) (br_t rfl ?_))))⟩⟩
      unfold wY_execute_245 wpY_operate
      refine y_check (by decide) hh hp48 (zst_k hS) rfl hmn (fun z => absurd hE z) (fun _ z => absurd z (by decide)) (fun _ _ _ => hYp _ (y_ckP (g := pc) (q := 4) rfl hh z1 hmn hp48 hmn (by omega) rfl (by omega) (by decide) (by decide) (by decide) (by decide) (by decide) (by decide) (by decide) (by decide) (by decide) (by decide) (by decide) (by decide) (by decide) (fun z => by omega) (fun _ z => absurd (hall.mpr hz) z) (fun _ _ => br_t rfl ?_)))
      refine br_t (by decide) (br_t (by decide) (br_t (by decide) (br_f (by decide) (br_t rfl (?_)))))
      unfold wY_operate_71
      refine y_path (m := 0) (q := 4) (n := 4) (g := pc) (by decide) (by decide) rfl z1 rfl (by omega) (by omega) (Or.inr rfl) (by decide) rfl hmn hmn (by omega) (by omega) hp48 (fun _ => ?_) (fun z => absurd rfl z)
      unfold wY_path_138
      have es0 : (zf ss 0 (0 + 4) (fun i => if (1 : Int32) ≠ 0 ∧ i = 0 then 1 else 0)) 0 ≠ 0 := by
        rw [zf_in (by omega) (by omega), if_pos ⟨by decide, rfl⟩]
        decide
      have hf : Zft (zf ss 0 (0 + 4) (fun i => if (1 : Int32) ≠ 0 ∧ i = 0 then 1 else 0)) 3 = 0 := zft_beg es0 3 (by omega) (fun j h1 h2 => by rw [zf_in (by omega) (by omega), if_neg (fun z => by omega)])
      refine y_fol (pc := 3) es0 rfl (by omega) ?_
      rw [hf]
      exact ⟨vp_in_nI (by omega) (by omega), nm_r (show _ = upd (zf cl 0 (0 + 4) (fun _ => 0)) 0 1 from rfl) (br_f (by decide) (nm_e hp))⟩
  · have hex : ∃ j, 0 ≤ j ∧ j < 4 ∧ zof (ZDX mA mB oX (zbx j (sv (h - 1 - 3)).toInt64 (sv (h - 1 - 1)).toInt64) (zby j (sv (h - 1 - 2)).toInt64 (sv (h - 1 - 0)).toInt64)) (ZDX mA mB oY (zby j (sv (h - 1 - 2)).toInt64 (sv (h - 1 - 0)).toInt64) (-(zbx j (sv (h - 1 - 3)).toInt64 (sv (h - 1 - 1)).toInt64))) ≠ 0 := by
      rcases z01 0 with q0 | q0
      · rcases z01 1 with q1 | q1
        · rcases z01 2 with q2 | q2
          · rcases z01 3 with q3 | q3
            · exact absurd (hall.mp ((zor_4 (z01 0) (z01 1) (z01 2) (z01 3)).mpr ⟨q0, q1, q2, q3⟩)) hz
            · exact ⟨3, by omega, by omega, by rw [q3]; decide⟩
          · exact ⟨2, by omega, by omega, by rw [q2]; decide⟩
        · exact ⟨1, by omega, by omega, by rw [q1]; decide⟩
      · exact ⟨0, by omega, by omega, by rw [q0]; decide⟩
    refine ⟨5, x_box2e rfl hh z1 (x_153e (by decide) (H 5 _ (nI t, 0, nI h, nI n, nI a, 5, -1, nI (s + 1), nI c, nI (3 + 1), mn 0, 1, ((((0 ||| zof (ZDX mA mB oX (zbx 0 (sv (h - 1 - 3)).toInt64 (sv (h - 1 - 1)).toInt64) (zby 0 (sv (h - 1 - 2)).toInt64 (sv (h - 1 - 0)).toInt64)) (ZDX mA mB oY (zby 0 (sv (h - 1 - 2)).toInt64 (sv (h - 1 - 0)).toInt64) (-(zbx 0 (sv (h - 1 - 3)).toInt64 (sv (h - 1 - 1)).toInt64)))) ||| zof (ZDX mA mB oX (zbx 1 (sv (h - 1 - 3)).toInt64 (sv (h - 1 - 1)).toInt64) (zby 1 (sv (h - 1 - 2)).toInt64 (sv (h - 1 - 0)).toInt64)) (ZDX mA mB oY (zby 1 (sv (h - 1 - 2)).toInt64 (sv (h - 1 - 0)).toInt64) (-(zbx 1 (sv (h - 1 - 3)).toInt64 (sv (h - 1 - 1)).toInt64)))) ||| zof (ZDX mA mB oX (zbx 2 (sv (h - 1 - 3)).toInt64 (sv (h - 1 - 1)).toInt64) (zby 2 (sv (h - 1 - 2)).toInt64 (sv (h - 1 - 0)).toInt64)) (ZDX mA mB oY (zby 2 (sv (h - 1 - 2)).toInt64 (sv (h - 1 - 0)).toInt64) (-(zbx 2 (sv (h - 1 - 3)).toInt64 (sv (h - 1 - 1)).toInt64)))) ||| zof (ZDX mA mB oX (zbx 3 (sv (h - 1 - 3)).toInt64 (sv (h - 1 - 1)).toInt64) (zby 3 (sv (h - 1 - 2)).toInt64 (sv (h - 1 - 0)).toInt64)) (ZDX mA mB oY (zby 3 (sv (h - 1 - 2)).toInt64 (sv (h - 1 - 0)).toInt64) (-(zbx 3 (sv (h - 1 - 3)).toInt64 (sv (h - 1 - 1)).toInt64)))), tk, tv, dg, sk, sv, vk, vv, hw, fr, og, lf, st, la, fm, fc, gr, wi, mn, qx, qy, ss, cl, cp, upd (upd (upd (upd nx 0 (ZDX mA mB oX (zbx 0 (sv (h - 1 - 3)).toInt64 (sv (h - 1 - 1)).toInt64) (zby 0 (sv (h - 1 - 2)).toInt64 (sv (h - 1 - 0)).toInt64)).toInt32) 1 (ZDX mA mB oX (zbx 1 (sv (h - 1 - 3)).toInt64 (sv (h - 1 - 1)).toInt64) (zby 1 (sv (h - 1 - 2)).toInt64 (sv (h - 1 - 0)).toInt64)).toInt32) 2 (ZDX mA mB oX (zbx 2 (sv (h - 1 - 3)).toInt64 (sv (h - 1 - 1)).toInt64) (zby 2 (sv (h - 1 - 2)).toInt64 (sv (h - 1 - 0)).toInt64)).toInt32) 3 (ZDX mA mB oX (zbx 3 (sv (h - 1 - 3)).toInt64 (sv (h - 1 - 1)).toInt64) (zby 3 (sv (h - 1 - 2)).toInt64 (sv (h - 1 - 0)).toInt64)).toInt32, upd (upd (upd (upd ny 0 (ZDX mA mB oY (zby 0 (sv (h - 1 - 2)).toInt64 (sv (h - 1 - 0)).toInt64) (-(zbx 0 (sv (h - 1 - 3)).toInt64 (sv (h - 1 - 1)).toInt64))).toInt32) 1 (ZDX mA mB oY (zby 1 (sv (h - 1 - 2)).toInt64 (sv (h - 1 - 0)).toInt64) (-(zbx 1 (sv (h - 1 - 3)).toInt64 (sv (h - 1 - 1)).toInt64))).toInt32) 2 (ZDX mA mB oY (zby 2 (sv (h - 1 - 2)).toInt64 (sv (h - 1 - 0)).toInt64) (-(zbx 2 (sv (h - 1 - 3)).toInt64 (sv (h - 1 - 1)).toInt64))).toInt32) 3 (ZDX mA mB oY (zby 3 (sv (h - 1 - 2)).toInt64 (sv (h - 1 - 0)).toInt64) (-(zbx 3 (sv (h - 1 - 3)).toInt64 (sv (h - 1 - 1)).toInt64))).toInt32) (zs_er hR' (by decide)) (fun PY hp => ?_))) 4 0 rfl hex⟩
    refine ⟨hi, nm_r ev ⟨hi, nm_r ek (br_f (by decide) (br_f (by decide) (br_f (by decide) (br_t rfl ?_))))⟩⟩
    unfold wY_execute_245 wpY_operate
    refine y_check (by decide) hh hp48 (zst_k hS) rfl hmn (fun z => absurd hE z) (fun _ z => absurd z (by decide)) (fun _ _ _ => hYp _ (y_ckP (g := pc) (q := 4) rfl hh z1 hmn hp48 hmn (by omega) rfl (by omega) (by decide) (by decide) (by decide) (by decide) (by decide) (by decide) (by decide) (by decide) (by decide) (by decide) (by decide) (by decide) (by decide) (fun z => by omega) (fun _ _ => br_f (by decide) hp) (fun _ z => absurd (hall.mp z) hz)))
end
end
section
/-! ===== where a line passes a dot ===== -/
def zpl (a b c d i j : Int32) : Int32 := (((2 * a) * (d - b)) + ((c - a) * (((2 * j) + 1) - (2 * b)))) - (((2 * i) + 1) * (d - b))
def zps (a b c d i j : Int32) : Int32 := if (if j < b then (0 : Int32) else 1) = (if j < d then 0 else 1) then 0 else if d ≤ b then (if zpl a b c d i j < 0 then 0 else -1) else (if 0 < zpl a b c d i j then 0 else 1)
theorem zg_mul {x y : Int} {m n : Nat} (h1 : -(m : Int) ≤ x) (h2 : x ≤ m) (h3 : -(n : Int) ≤ y) (h4 : y ≤ n) : -((m * n : Nat) : Int) ≤ x * y ∧ x * y ≤ ((m * n : Nat) : Int) := by
  have e : (x * y).natAbs = x.natAbs * y.natAbs := Int.natAbs_mul x y
  have l : x.natAbs * y.natAbs ≤ m * n := Nat.mul_le_mul (by omega) (by omega)
  omega
theorem zg_of {Z : Int} (h1 : -2000000 ≤ Z) (h2 : Z ≤ 2000000) : (Int32.ofInt Z).toInt = Z := by
  rw [Int32.toInt_ofInt]
  show Z.bmod 4294967296 = Z
  exact Int.bmod_eq_of_le (by omega) (by omega)
theorem zg_lit2 : Int32.ofInt 2 = 2 := by decide
theorem zg_lit1 : Int32.ofInt 1 = 1 := by decide
theorem zpl_i {a b c d : Int32} {I J : Nat} (ha : Zsm a) (hb : Zsm b) (hc : Zsm c) (hd : Zsm d) (hI : I < 24) (hJ : J < 24) : -600000 ≤ (zpl a b c d (nI I) (nI J)).toInt ∧ (zpl a b c d (nI I) (nI J)).toInt ≤ 600000 := by
  obtain ⟨a1, a2⟩ := ha
  obtain ⟨b1, b2⟩ := hb
  obtain ⟨c1, c2⟩ := hc
  obtain ⟨d1, d2⟩ := hd
  have ei : (nI I).toInt = (I : Int) := nI_toInt (by omega)
  have ej : (nI J).toInt = (J : Int) := nI_toInt (by omega)
  have e : zpl a b c d (nI I) (nI J) = Int32.ofInt (((2 * a.toInt) * (d.toInt - b.toInt) + (c.toInt - a.toInt) * ((2 * (nI J).toInt + 1) - 2 * b.toInt)) - (2 * (nI I).toInt + 1) * (d.toInt - b.toInt)) := by
    simp only [Int32.ofInt_sub, Int32.ofInt_add, Int32.ofInt_mul, Int32.ofInt_toInt, zg_lit2, zg_lit1]
    rfl
  have m1 := zg_mul (x := 2 * a.toInt) (y := d.toInt - b.toInt) (m := 400) (n := 400) (by omega) (by omega) (by omega) (by omega)
  have m2 := zg_mul (x := c.toInt - a.toInt) (y := (2 * (nI J).toInt + 1) - 2 * b.toInt) (m := 400) (n := 500) (by omega) (by omega) (by omega) (by omega)
  have m3 := zg_mul (x := 2 * (nI I).toInt + 1) (y := d.toInt - b.toInt) (m := 50) (n := 400) (by omega) (by omega) (by omega) (by omega)
  rw [e, zg_of (by omega) (by omega)]
  omega
theorem zg_dbl {x : Int32} (h1 : -600000 ≤ x.toInt) (h2 : x.toInt ≤ 600000) : (x + x).toInt = x.toInt + x.toInt := by
  rw [Int32.toInt_add]
  exact Int.bmod_eq_of_le (by omega) (by omega)
theorem zg_c1 {b : Int32} {J : Nat} (hb : Zsm b) (hJ : J < 24) : (2 * nI J + 1 ≤ 2 * b) ↔ nI J < b := by
  obtain ⟨b1, b2⟩ := hb
  have ej : (nI J).toInt = (J : Int) := nI_toInt (by omega)
  have e1 : (2 * nI J + 1).toInt = 2 * (J : Int) + 1 := by
    have : 2 * nI J + 1 = nI (2 * J + 1) := by
      show nI 2 * nI J + nI 1 = _
      rw [pk_mul, nI_add]
    rw [this, nI_toInt (by omega)]
    omega
  have e2 : (2 * b).toInt = 2 * b.toInt := by
    have : 2 * b = Int32.ofInt (2 * b.toInt) := by
      simp only [Int32.ofInt_mul, Int32.ofInt_toInt, zg_lit2]
    rw [this, zg_of (by omega) (by omega)]
  rw [zt_le, zt_lt, e1, e2, ej]
  omega
theorem zg_c2 {b d : Int32} (hb : Zsm b) (hd : Zsm d) : (2 * d - 2 * b ≤ 0) ↔ d ≤ b := by
  obtain ⟨b1, b2⟩ := hb
  obtain ⟨d1, d2⟩ := hd
  have e2 : (2 * d - 2 * b).toInt = 2 * d.toInt - 2 * b.toInt := by
    have : 2 * d - 2 * b = Int32.ofInt (2 * d.toInt - 2 * b.toInt) := by
      simp only [Int32.ofInt_sub, Int32.ofInt_mul, Int32.ofInt_toInt, zg_lit2]
    rw [this, zg_of (by omega) (by omega)]
  rw [zt_le, zt_le, e2, z32_0]
  omega
theorem zg_x {a b c d i j : Int32} : (2 * a - (2 * i + 1)) * (2 * d - 2 * b) + (2 * c - 2 * a) * ((2 * j + 1) - 2 * b) = zpl a b c d i j + zpl a b c d i j := by
  unfold zpl
  grind
section
variable {tc ob ps su ep sd bc mA mB oX oY gY wD pC sC yt yo yh yi ya ye yp ys yc nw gn bg wd : Int32} {tk tv cb sk sv vk vv bp br bh bn bs bl px py pm cr sn sx sy sm sp dg hw fr og lf st la fm fc gr wi mn qx qy ss cl cp nx ny : Nat → Int32}
theorem y_passes {post : Int32 → Prop} {p q : Nat} {i j : Int32} (hp : p < 240) (hq : q < 240) (k : post (zps (qx p) (qy p) (qx q) (qy q) i j)) : wpY_passes post (yt, yo, yh, yi, ya, ye, yp, ys, yc, nw, gn, bg, wd, tk, tv, dg, sk, sv, vk, vv, hw, fr, og, lf, st, la, fm, fc, gr, wi, mn, qx, qy, ss, cl, cp, nx, ny) (nI p) (nI q) i j := by
  have ip : vp_in (nI p) 240 := vp_in_nI hp (by omega)
  have iq : vp_in (nI q) 240 := vp_in_nI hq (by omega)
  have ep : (nI p).toNatClampNeg = p := zc_i (by omega)
  have eq : (nI q).toNatClampNeg = q := zc_i (by omega)
  have t56 : ∀ z0 z1 : Int32, post (if z1 = z0 then 0 else if qy q ≤ qy p then (if zpl (qx p) (qy p) (qx q) (qy q) i j < 0 then 0 else -1) else (if 0 < zpl (qx p) (qy p) (qx q) (qy q) i j then 0 else 1)) → wY_passes_56 post i j (qx p) (qy p) (qx q) (qy q) z0 z1 yt yo yh yi ya ye yp ys yc nw gn bg wd tk tv dg sk sv vk vv hw fr og lf st la fm fc gr wi mn qx qy ss cl cp nx ny := by
    intro z0 z1 kk
    refine br_c (fun e => ?_) (fun e => nm_e (br_c (fun e2 => br_c (fun e3 => ?_) (fun e3 => ?_)) (fun e2 => br_c (fun e3 => ?_) (fun e3 => ?_))))
    · rw [if_pos e] at kk; exact kk
    · rw [if_neg e, if_pos e2, if_pos (show zpl (qx p) (qy p) (qx q) (qy q) i j < 0 from e3)] at kk; exact kk
    · rw [if_neg e, if_pos e2, if_neg (show ¬ zpl (qx p) (qy p) (qx q) (qy q) i j < 0 from e3)] at kk; exact kk
    · rw [if_neg e, if_neg e2, if_pos (show 0 < zpl (qx p) (qy p) (qx q) (qy q) i j from e3)] at kk; exact kk
    · rw [if_neg e, if_neg e2, if_neg (show ¬ 0 < zpl (qx p) (qy p) (qx q) (qy q) i j from e3)] at kk; exact kk
  have t44 : ∀ z : Int32, z = (if j < qy p then (0 : Int32) else 1) → wY_passes_44 post i j (qx p) (qy p) (qx q) (qy q) z yt yo yh yi ya ye yp ys yc nw gn bg wd tk tv dg sk sv vk vv hw fr og lf st la fm fc gr wi mn qx qy ss cl cp nx ny := by
    intro z hz
    unfold zps at k
    rw [← hz] at k
    refine br_c (fun e => t56 0 z ?_) (fun e => t56 1 z ?_)
    · rw [if_pos e] at k; exact k
    · rw [if_neg e] at k; exact k
  refine ⟨ip, nm_r (congrArg qx ep) ⟨ip, nm_r (congrArg qy ep) ⟨iq, nm_r (congrArg qx eq) ⟨iq, nm_r (congrArg qy eq) (br_c (fun e => t44 0 ?_) (fun e => t44 1 ?_))⟩⟩⟩⟩
  · rw [if_pos e]
  · rw [if_neg e]
theorem x_passing {post : Int32 → Prop} {p q I J : Nat} (hp : p < 48) (hq : q < 48) (sa : Zsm (px p)) (sb : Zsm (py p)) (sc : Zsm (px q)) (sd' : Zsm (py q)) (hI : I < 24) (hJ : J < 24) (k : post (zps (px p) (py p) (px q) (py q) (nI I) (nI J))) : wpX_passing post (tc, ob, ps, su, ep, sd, bc, mA, mB, oX, oY, gY, wD, pC, sC, tk, tv, cb, sk, sv, vk, vv, bp, br, bh, bn, bs, bl, px, py, pm, cr, sn, sx, sy, sm, sp, dg) (nI p) (nI q) (nI I) (nI J) := by
  have ip : vp_in (nI p) 48 := vp_in_nI hp (by omega)
  have iq : vp_in (nI q) 48 := vp_in_nI hq (by omega)
  have ekp : (nI p).toNatClampNeg = p := zc_i (by omega)
  have eq : (nI q).toNatClampNeg = q := zc_i (by omega)
  obtain ⟨l1, l2⟩ := zpl_i sa sb sc sd' hI hJ
  have l3 := zg_dbl l1 l2
  have t59 : ∀ z0 z1 : Int32, post (if z1 = z0 then 0 else if py q ≤ py p then (if zpl (px p) (py p) (px q) (py q) (nI I) (nI J) < 0 then 0 else -1) else (if 0 < zpl (px p) (py p) (px q) (py q) (nI I) (nI J) then 0 else 1)) → wX_passing_59 post (nI p) (nI q) (2 * nI I + 1) (2 * nI J + 1) (2 * py p) (2 * py q) z0 z1 tc ob ps su ep sd bc mA mB oX oY gY wD pC sC tk tv cb sk sv vk vv bp br bh bn bs bl px py pm cr sn sx sy sm sp dg := by
    intro z0 z1 kk
    refine br_c (fun e => ?_) (fun e => nm_e ⟨iq, ip, nm_r (show _ = 2 * px q - 2 * px p by rw [ekp, eq]) ⟨ip, nm_r (show _ = zpl (px p) (py p) (px q) (py q) (nI I) (nI J) + zpl (px p) (py p) (px q) (py q) (nI I) (nI J) by rw [ekp]; exact zg_x) (br_c (fun e2 => br_c (fun e3 => ?_) (fun e3 => ?_)) (fun e2 => br_c (fun e3 => ?_) (fun e3 => ?_)))⟩⟩)
    · rw [if_pos e] at kk; exact kk
    · rw [zt_lt, l3, z32_0] at e3
      rw [if_neg e, if_pos ((zg_c2 sb sd').mp e2), if_pos (by rw [zt_lt, z32_0]; omega)] at kk; exact kk
    · rw [zt_lt, l3, z32_0] at e3
      rw [if_neg e, if_pos ((zg_c2 sb sd').mp e2), if_neg (by rw [zt_lt, z32_0]; omega)] at kk; exact kk
    · rw [zt_lt, l3, z32_0] at e3
      rw [if_neg e, if_neg (fun z => e2 ((zg_c2 sb sd').mpr z)), if_pos (by rw [zt_lt, z32_0]; omega)] at kk; exact kk
    · rw [zt_lt, l3, z32_0] at e3
      rw [if_neg e, if_neg (fun z => e2 ((zg_c2 sb sd').mpr z)), if_neg (by rw [zt_lt, z32_0]; omega)] at kk; exact kk
  have t47 : ∀ z : Int32, z = (if nI J < py p then (0 : Int32) else 1) → wX_passing_47 post (nI p) (nI q) (2 * nI I + 1) (2 * nI J + 1) (2 * py p) (2 * py q) z tc ob ps su ep sd bc mA mB oX oY gY wD pC sC tk tv cb sk sv vk vv bp br bh bn bs bl px py pm cr sn sx sy sm sp dg := by
    intro z hz
    unfold zps at k
    rw [← hz] at k
    refine br_c (fun e => t59 0 z ?_) (fun e => t59 1 z ?_)
    · rw [if_pos ((zg_c1 sd' hJ).mp e)] at k; exact k
    · rw [if_neg (fun z => e ((zg_c1 sd' hJ).mpr z))] at k; exact k
  refine nm_e (nm_e ⟨ip, nm_r (show _ = 2 * py p by rw [ekp]) ⟨iq, nm_r (show _ = 2 * py q by rw [eq]) (br_c (fun e => t47 0 ?_) (fun e => t47 1 ?_))⟩⟩)
  · rw [if_pos ((zg_c1 sb hJ).mp e)]
  · rw [if_neg (fun z => e ((zg_c1 sb hJ).mpr z))]
/-! ===== near a line ===== -/
def znr2 (ww x y dx dy : Int64) : Int32 := if 0 < x * dx + y * dy then (if x * dx + y * dy < dx * dx + dy * dy then (if ww * (dx * dx + dy * dy) < (x * dy - y * dx) * (x * dy - y * dx) then 0 else 1) else (if ww < (x - dx) * (x - dx) + (y - dy) * (y - dy) then 0 else 1)) else (if ww < x * x + y * y then 0 else 1)
def znr (w a b c d i j : Int32) : Int32 := znr2 (w.toInt64 * w.toInt64) (((2 * i) + 1) - (2 * a)).toInt64 (((2 * j) + 1) - (2 * b)).toInt64 (2 * (c - a)).toInt64 (2 * (d - b)).toInt64
theorem y_touches {post : Int32 → Prop} {p q : Nat} {i j : Int32} (hp : p < 240) (hq : q < 240) (k : post (znr (wi 0) (qx p) (qy p) (qx q) (qy q) i j)) : wpY_touches post (yt, yo, yh, yi, ya, ye, yp, ys, yc, nw, gn, bg, wd, tk, tv, dg, sk, sv, vk, vv, hw, fr, og, lf, st, la, fm, fc, gr, wi, mn, qx, qy, ss, cl, cp, nx, ny) (nI p) (nI q) i j := by
  have ip : vp_in (nI p) 240 := vp_in_nI hp (by omega)
  have iq : vp_in (nI q) 240 := vp_in_nI hq (by omega)
  have ep : (nI p).toNatClampNeg = p := zc_i (by omega)
  have eq : (nI q).toNatClampNeg = q := zc_i (by omega)
  unfold znr at k
  refine ⟨ip, nm_r (show _ = (((2 * i) + 1) - (2 * qx p)).toInt64 by rw [ep]) ⟨ip, nm_r (show _ = (((2 * j) + 1) - (2 * qy p)).toInt64 by rw [ep]) ⟨iq, ip, nm_r (show _ = (2 * (qx q - qx p)).toInt64 by rw [ep, eq]) ⟨iq, ip, nm_r (show _ = (2 * (qy q - qy p)).toInt64 by rw [ep, eq]) ?_⟩⟩⟩⟩
  generalize (((2 * i) + 1) - (2 * qx p)).toInt64 = x at *
  generalize (((2 * j) + 1) - (2 * qy p)).toInt64 = y at *
  generalize (2 * (qx q - qx p)).toInt64 = dx at *
  generalize (2 * (qy q - qy p)).toInt64 = dy at *
  refine nm_e (nm_e (nm_e ?_))
  unfold znr2 at k
  refine br_c (fun e1 => br_c (fun e2 => nm_e (br_c (fun e3 => ?_) (fun e3 => ?_))) (fun e2 => br_c (fun e3 => ?_) (fun e3 => ?_))) (fun e1 => br_c (fun e3 => ?_) (fun e3 => ?_))
  · rw [if_pos e1, if_pos e2, if_pos e3] at k; exact k
  · rw [if_pos e1, if_pos e2, if_neg e3] at k; exact k
  · rw [if_pos e1, if_neg e2, if_pos e3] at k; exact k
  · rw [if_pos e1, if_neg e2, if_neg e3] at k; exact k
  · rw [if_neg e1, if_pos e3] at k; exact k
  · rw [if_neg e1, if_neg e3] at k; exact k
theorem x_isNear {post : Int32 → Prop} {p q : Nat} {i j : Int32} (hp : p < 48) (hq : q < 48) (k : post (znr wD (px p) (py p) (px q) (py q) i j)) : wpX_isNear post (tc, ob, ps, su, ep, sd, bc, mA, mB, oX, oY, gY, wD, pC, sC, tk, tv, cb, sk, sv, vk, vv, bp, br, bh, bn, bs, bl, px, py, pm, cr, sn, sx, sy, sm, sp, dg) (nI p) (nI q) i j := by
  have ip : vp_in (nI p) 48 := vp_in_nI hp (by omega)
  have iq : vp_in (nI q) 48 := vp_in_nI hq (by omega)
  have ep : (nI p).toNatClampNeg = p := zc_i (by omega)
  have eq : (nI q).toNatClampNeg = q := zc_i (by omega)
  have d2 : ∀ a b : Int32, 2 * a - 2 * b = 2 * (a - b) := fun a b => by grind
  unfold znr at k
  refine ⟨iq, ip, nm_r (show _ = (2 * (px q - px p)).toInt64 by rw [ep, eq, d2]) ⟨iq, ip, nm_r (show _ = (2 * (py q - py p)).toInt64 by rw [ep, eq, d2]) ⟨ip, nm_r (show _ = (((2 * i) + 1) - (2 * px p)).toInt64 by rw [ep]) ⟨ip, nm_r (show _ = (((2 * j) + 1) - (2 * py p)).toInt64 by rw [ep]) ?_⟩⟩⟩⟩
  generalize (((2 * i) + 1) - (2 * px p)).toInt64 = x at *
  generalize (((2 * j) + 1) - (2 * py p)).toInt64 = y at *
  generalize (2 * (px q - px p)).toInt64 = dx at *
  generalize (2 * (py q - py p)).toInt64 = dy at *
  refine nm_e (nm_e (nm_e ?_))
  unfold znr2 at k
  refine br_c (fun e1 => br_c (fun e2 => nm_e (br_c (fun e3 => ?_) (fun e3 => ?_))) (fun e2 => nm_e (nm_e (br_c (fun e3 => ?_) (fun e3 => ?_))))) (fun e1 => br_c (fun e3 => ?_) (fun e3 => ?_))
  · rw [if_pos e1, if_pos e2, if_pos e3] at k; exact k
  · rw [if_pos e1, if_pos e2, if_neg e3] at k; exact k
  · rw [if_pos e1, if_neg e2, if_pos e3] at k; exact k
  · rw [if_pos e1, if_neg e2, if_neg e3] at k; exact k
  · rw [if_neg e1, if_pos e3] at k; exact k
  · rw [if_neg e1, if_neg e3] at k; exact k
/-! ===== along the path ===== -/
def Zen (pc : Nat) (ss : Nat → Int32) (k : Nat) : Prop := ¬ (k + 1 < pc ∧ ss (k + 1) = 0)
def Znx (pc : Nat) (ss : Nat → Int32) (k : Nat) : Nat := if k + 1 < pc ∧ ss (k + 1) = 0 then k + 1 else Zft ss k
theorem znx_lt {pc k : Nat} (hk : k < pc) : Znx pc ss k < pc := by
  have := zft_le ss k
  unfold Znx
  split <;> omega
theorem x_ends {post : Int32 → Prop} {pc k : Nat} (hP : ZPT pc px py pm qx qy ss cl) (hc : pC = nI pc) (hk : k < pc) (kk : post (if k + 1 < pc ∧ ss (k + 1) = 0 then 0 else 1)) : wpX_endsSubpath post (tc, ob, ps, su, ep, sd, bc, mA, mB, oX, oY, gY, wD, pC, sC, tk, tv, cb, sk, sv, vk, vv, bp, br, bh, bn, bs, bl, px, py, pm, cr, sn, sx, sy, sm, sp, dg) (nI k) := by
  subst hc
  have h48 := hP.1
  show (nI pc ≤ nI k + 1 → post 1) ∧ (¬ nI pc ≤ nI k + 1 → (vp_in (nI k + 1) 48 ∧ ((((pm (nI k + 1).toNatClampNeg) &&& 1) = 0 → post 0) ∧ (¬ ((pm (nI k + 1).toNatClampNeg) &&& 1) = 0 → post 1))))
  rw [nI_1]
  refine pk_le pc (k + 1) (fun e => ?_) (fun e => ?_)
  · rw [if_neg (by omega)] at kk; exact kk
  · obtain ⟨_, _, _, _, hm, _⟩ := hP.2.2 (k + 1) e
    refine ⟨vp_in_nI (by omega) (by omega), ?_⟩
    rw [zc_i (n := k + 1) (by omega), hm]
    refine br_c (fun q => ?_) (fun q => ?_)
    · rw [if_pos ⟨e, zmk_1.mp q⟩] at kk; exact kk
    · rw [if_neg (fun z => q (zmk_1.mpr z.2))] at kk; exact kk
theorem y_next_l {post : Int32 → Prop} {x2 : Int32} (h0 : ss 0 ≠ 0) : ∀ k, k < 240 → post (if x2 = 0 ∧ cl (Zft ss k) = 0 then -1 else nI (Zft ss k)) → wY_next_29 post x2 yt yo yh yi ya ye yp ys yc nw gn bg wd tk tv dg sk sv vk vv hw fr og lf st la fm fc gr wi mn qx qy ss cl cp nx ny (k + 1) (nI k) := by
  intro k
  have fin : ∀ k, k < 240 → post (if x2 = 0 ∧ cl k = 0 then -1 else nI k) → ((x2 = 0 → (vp_in (nI k) 240 ∧ ((cl (nI k).toNatClampNeg = 0 → post (-1)) ∧ (¬ cl (nI k).toNatClampNeg = 0 → post (nI k))))) ∧ (¬ x2 = 0 → post (nI k))) := by
    intro k hk kk
    rw [zc_i (by omega)]
    refine br_c (fun e => ⟨vp_in_nI hk (by omega), br_c (fun e2 => ?_) (fun e2 => ?_)⟩) (fun e => ?_)
    · rw [if_pos ⟨e, e2⟩] at kk; exact kk
    · rw [if_neg (fun z => e2 z.2)] at kk; exact kk
    · rw [if_neg (fun z => e z.1)] at kk; exact kk
  induction k with
  | zero =>
    intro hk kk
    refine ⟨vp_in_nI hk (by omega), br_f (by rw [zc_i (by omega)]; exact h0) (fin 0 hk kk)⟩
  | succ k ih =>
    intro hk kk
    refine ⟨vp_in_nI hk (by omega), ?_⟩
    refine br_c (fun q => ?_) (fun q => ?_)
    · rw [zc_i (n := k + 1) (by omega)] at q
      rw [zft_0 q] at kk
      exact nm_r (pk_m1 k) (ih (by omega) kk)
    · rw [zc_i (n := k + 1) (by omega)] at q
      rw [zft_s q] at kk
      exact fin (k + 1) hk kk
theorem y_next {post : Int32 → Prop} {x2 : Int32} {pc k : Nat} (h0 : ss 0 ≠ 0) (hm : mn 0 = nI pc) (h48 : pc ≤ 48) (hk : k < pc) (kk : post (if (¬ (k + 1 < pc ∧ ss (k + 1) = 0)) ∧ x2 = 0 ∧ cl (Zft ss k) = 0 then -1 else nI (Znx pc ss k))) : wpY_next post (yt, yo, yh, yi, ya, ye, yp, ys, yc, nw, gn, bg, wd, tk, tv, dg, sk, sv, vk, vv, hw, fr, og, lf, st, la, fm, fc, gr, wi, mn, qx, qy, ss, cl, cp, nx, ny) (nI k) x2 := by
  unfold Znx at kk
  show (mn 0 ≤ nI k + 1 → ∃ q, wY_next_29 post x2 yt yo yh yi ya ye yp ys yc nw gn bg wd tk tv dg sk sv vk vv hw fr og lf st la fm fc gr wi mn qx qy ss cl cp nx ny q (nI k)) ∧ (¬ mn 0 ≤ nI k + 1 → (vp_in (nI k + 1) 240 ∧ (((ss (nI k + 1).toNatClampNeg) = 0 → post (nI k + 1)) ∧ (¬ (ss (nI k + 1).toNatClampNeg) = 0 → ∃ q, wY_next_29 post x2 yt yo yh yi ya ye yp ys yc nw gn bg wd tk tv dg sk sv vk vv hw fr og lf st la fm fc gr wi mn qx qy ss cl cp nx ny q (nI k)))))
  rw [nI_1, hm, zc_i (n := k + 1) (by omega)]
  have go : ¬ (k + 1 < pc ∧ ss (k + 1) = 0) → ∃ q, wY_next_29 post x2 yt yo yh yi ya ye yp ys yc nw gn bg wd tk tv dg sk sv vk vv hw fr og lf st la fm fc gr wi mn qx qy ss cl cp nx ny q (nI k) := by
    intro e
    refine ⟨k + 1, y_next_l h0 k (by omega) ?_⟩
    rw [if_neg e] at kk
    by_cases q : x2 = 0 ∧ cl (Zft ss k) = 0
    · rw [if_pos ⟨e, q⟩] at kk; rw [if_pos q]; exact kk
    · rw [if_neg (fun z => q z.2)] at kk; rw [if_neg q]; exact kk
  refine pk_le pc (k + 1) (fun e => go (by omega)) (fun e => ⟨vp_in_nI (by omega) (by omega), br_c (fun q => ?_) (fun q => go (fun z => q z.2))⟩)
  rw [if_neg (fun z => z.1 ⟨e, q⟩), if_pos ⟨e, q⟩] at kk
  exact kk
/-! windings -/
def zwn (pc : Nat) (px py ss : Nat → Int32) (i j : Int32) : Nat → Nat → Int32 → Int32
  | 0, _, x => x
  | d + 1, k, x => zwn pc px py ss i j d (k + 1) (x + zps (px k) (py k) (px (Znx pc ss k)) (py (Znx pc ss k)) i j)
theorem x_wind_l {post : Int32 → Prop} {pc I J : Nat} (hP : ZPT pc px py pm qx qy ss cl) (hc : pC = nI pc) (hI : I < 24) (hJ : J < 24) :
    ∀ (d k f : Nat) (x : Int32), k + d = pc → (ss k = 0 → f = Zft ss k) → post (zwn pc px py ss (nI I) (nI J) d k x) → wX_windingAt_8 post (nI I) (nI J) tc ob ps su ep sd bc mA mB oX oY gY wD pC sC tk tv cb sk sv vk vv bp br bh bn bs bl px py pm cr sn sx sy sm sp dg (d + 1) x (nI f) (nI k) := by
  have h48 := hP.1
  intro d
  induction d with
  | zero =>
    intro k f x hk hf kk
    subst hc
    exact ql_t pc k (by omega) kk
  | succ d ih =>
    intro k f x hk hf kk
    obtain ⟨_, _, _, _, hm, s1, s2⟩ := hP.2.2 k (by omega)
    have hn := znx_lt (ss := ss) (pc := pc) (k := k) (by omega)
    obtain ⟨_, _, _, _, _, s3, s4⟩ := hP.2.2 (Znx pc ss k) hn
    have hl := zft_le ss k
    unfold zwn at kk
    have go : wX_windingAt_33 post (wX_windingAt_8 post (nI I) (nI J) tc ob ps su ep sd bc mA mB oX oY gY wD pC sC tk tv cb sk sv vk vv bp br bh bn bs bl px py pm cr sn sx sy sm sp dg (d + 1)) (nI I) (nI J) x (nI (Zft ss k)) (nI k) tc ob ps su ep sd bc mA mB oX oY gY wD pC sC tk tv cb sk sv vk vv bp br bh bn bs bl px py pm cr sn sx sy sm sp dg := by
      unfold wX_windingAt_33
      refine x_ends hP hc (by omega) ?_
      have g2 : ∀ z : Int32, z = nI (Znx pc ss k) → wX_windingAt_51 post (wX_windingAt_8 post (nI I) (nI J) tc ob ps su ep sd bc mA mB oX oY gY wD pC sC tk tv cb sk sv vk vv bp br bh bn bs bl px py pm cr sn sx sy sm sp dg (d + 1)) (nI I) (nI J) x (nI (Zft ss k)) (nI k) z tc ob ps su ep sd bc mA mB oX oY gY wD pC sC tk tv cb sk sv vk vv bp br bh bn bs bl px py pm cr sn sx sy sm sp dg := by
        intro z hz
        subst hz
        unfold wX_windingAt_51
        exact x_passing (by omega) (by omega) s1 s2 s3 s4 hI hJ (nm_e (nm_r (nI_1 k) (ih (k + 1) _ _ (by omega) (fun e => (zft_0 e).symm) kk)))
      by_cases e : k + 1 < pc ∧ ss (k + 1) = 0
      · rw [if_pos e]
        refine br_t rfl (g2 _ ?_)
        unfold Znx
        rw [if_pos e, nI_1]
      · rw [if_neg e]
        refine br_f (by decide) (g2 _ ?_)
        unfold Znx
        rw [if_neg e]
    have e1 : (nI k).toNatClampNeg = k := zc_i (by omega)
    refine br_f (by rw [hc]; exact nI_ge (by omega) (by omega)) ⟨vp_in_nI (by omega) (by omega), br_c (fun q => ?_) (fun q => ?_)⟩
    · rw [e1, hm] at q
      rw [hf (zmk_1.mp q)]
      exact go
    · rw [e1, hm] at q
      rw [zft_s (fun z => q (zmk_1.mpr z))] at go
      exact go
theorem x_wind {post : Int32 → Prop} {pc I J : Nat} (hP : ZPT pc px py pm qx qy ss cl) (hc : pC = nI pc) (hI : I < 24) (hJ : J < 24) (k : post (zwn pc px py ss (nI I) (nI J) pc 0 0)) : wpX_windingAt post (tc, ob, ps, su, ep, sd, bc, mA, mB, oX, oY, gY, wD, pC, sC, tk, tv, cb, sk, sv, vk, vv, bp, br, bh, bn, bs, bl, px, py, pm, cr, sn, sx, sy, sm, sp, dg) (nI I) (nI J) :=
  ⟨pc + 1, x_wind_l hP hc hI hJ pc 0 0 0 (by omega) (fun _ => rfl) k⟩
theorem y_wind_l {post : Int32 → Prop} {pc : Nat} {i j : Int32} (hP : ZPT pc px py pm qx qy ss cl) (hm : mn 0 = nI pc) :
    ∀ (d k : Nat) (x : Int32), k + d = pc → post (zwn pc px py ss i j d k x) → wY_winding_5 post i j yt yo yh yi ya ye yp ys yc nw gn bg wd tk tv dg sk sv vk vv hw fr og lf st la fm fc gr wi mn qx qy ss cl cp nx ny (d + 1) x (nI k) := by
  have h48 := hP.1
  intro d
  induction d with
  | zero =>
    intro k x hk kk
    exact br_t (by rw [hm]; exact nI_le (by omega) (by omega)) kk
  | succ d ih =>
    intro k x hk kk
    have h0 := hP.2.1 (by omega)
    obtain ⟨x1, x2, _⟩ := hP.2.2 k (by omega)
    have hn := znx_lt (ss := ss) (pc := pc) (k := k) (by omega)
    obtain ⟨x3, x4, _⟩ := hP.2.2 (Znx pc ss k) hn
    unfold zwn at kk
    rw [← x1, ← x2, ← x3, ← x4] at kk
    refine br_f (by rw [hm]; exact nI_ge (by omega) (by omega)) (y_next h0 hm h48 (by omega) ?_)
    rw [if_neg (fun z => absurd z.2.1 (by decide))]
    exact y_passes (by omega) (by omega) (nm_e (nm_r (nI_1 k) (ih (k + 1) _ (by omega) kk)))
theorem y_wind {post : Int32 → Prop} {pc : Nat} {i j : Int32} (hP : ZPT pc px py pm qx qy ss cl) (hm : mn 0 = nI pc) (k : post (zwn pc px py ss i j pc 0 0)) : wpY_winding post (yt, yo, yh, yi, ya, ye, yp, ys, yc, nw, gn, bg, wd, tk, tv, dg, sk, sv, vk, vv, hw, fr, og, lf, st, la, fm, fc, gr, wi, mn, qx, qy, ss, cl, cp, nx, ny) i j :=
  ⟨pc + 1, y_wind_l hP hm pc 0 0 (by omega) k⟩
/-! strokes -/
def zsk (pc : Nat) (px py ss cl : Nat → Int32) (w i j : Int32) : Nat → Nat → Int32
  | 0, _ => 0
  | d + 1, k => if (¬ (k + 1 < pc ∧ ss (k + 1) = 0)) ∧ cl (Zft ss k) = 0 then zsk pc px py ss cl w i j d (k + 1) else if znr w (px k) (py k) (px (Znx pc ss k)) (py (Znx pc ss k)) i j = 0 then zsk pc px py ss cl w i j d (k + 1) else 1
theorem x_stk_l {post : Int32 → Prop} {pc : Nat} {i j : Int32} (hP : ZPT pc px py pm qx qy ss cl) (hc : pC = nI pc) :
    ∀ (d k f : Nat), k + d = pc → (ss k = 0 → f = Zft ss k) → post (zsk pc px py ss cl wD i j d k) → wX_isStroked_5 post i j tc ob ps su ep sd bc mA mB oX oY gY wD pC sC tk tv cb sk sv vk vv bp br bh bn bs bl px py pm cr sn sx sy sm sp dg (d + 1) (nI f) (nI k) := by
  have h48 := hP.1
  intro d
  induction d with
  | zero =>
    intro k f hk hf kk
    subst hc
    exact ql_t pc k (by omega) kk
  | succ d ih =>
    intro k f hk hf kk
    obtain ⟨_, _, _, _, hm, s1, s2⟩ := hP.2.2 k (by omega)
    have hn := znx_lt (ss := ss) (pc := pc) (k := k) (by omega)
    have hl := zft_le ss k
    have e1 : (nI k).toNatClampNeg = k := zc_i (by omega)
    unfold zsk at kk
    have go : wX_isStroked_29 post (wX_isStroked_5 post i j tc ob ps su ep sd bc mA mB oX oY gY wD pC sC tk tv cb sk sv vk vv bp br bh bn bs bl px py pm cr sn sx sy sm sp dg (d + 1)) i j (nI (Zft ss k)) (nI k) tc ob ps su ep sd bc mA mB oX oY gY wD pC sC tk tv cb sk sv vk vv bp br bh bn bs bl px py pm cr sn sx sy sm sp dg := by
      unfold wX_isStroked_29
      refine x_ends hP hc (by omega) ?_
      have nxt : post (zsk pc px py ss cl wD i j d (k + 1)) → wX_isStroked_5 post i j tc ob ps su ep sd bc mA mB oX oY gY wD pC sC tk tv cb sk sv vk vv bp br bh bn bs bl px py pm cr sn sx sy sm sp dg (d + 1) (nI (Zft ss k)) (nI (k + 1)) := fun z => ih (k + 1) _ (by omega) (fun e => (zft_0 e).symm) z
      have g2 : ¬ ((¬ (k + 1 < pc ∧ ss (k + 1) = 0)) ∧ cl (Zft ss k) = 0) → ∀ z : Int32, z = nI (Znx pc ss k) → wX_isStroked_82 post (wX_isStroked_5 post i j tc ob ps su ep sd bc mA mB oX oY gY wD pC sC tk tv cb sk sv vk vv bp br bh bn bs bl px py pm cr sn sx sy sm sp dg (d + 1)) i j (nI (Zft ss k)) (nI k) z (nI k) tc ob ps su ep sd bc mA mB oX oY gY wD pC sC tk tv cb sk sv vk vv bp br bh bn bs bl px py pm cr sn sx sy sm sp dg := by
        intro hne z hz
        subst hz
        rw [if_neg hne] at kk
        unfold wX_isStroked_82
        refine x_isNear (by omega) (by omega) (br_c (fun q => nm_r (nI_1 k) (nxt ?_)) (fun q => ?_))
        · rw [if_pos q] at kk; exact kk
        · rw [if_neg q] at kk; exact kk
      by_cases e : k + 1 < pc ∧ ss (k + 1) = 0
      · rw [if_pos e]
        refine br_t rfl (br_f (by decide) (br_t rfl (g2 (fun z => z.1 e) _ ?_)))
        unfold Znx
        rw [if_pos e, nI_1]
      · rw [if_neg e]
        refine br_f (by decide) ⟨vp_in_nI (by omega) (by omega), br_c (fun q => br_t rfl (nm_r (nI_1 k) (nxt ?_))) (fun q => br_f (by decide) (br_f (by decide) (g2 (fun z => q ?_) _ ?_)))⟩
        · rw [e1, hm] at q
          rw [if_pos ⟨e, zmk_2.mp q⟩] at kk; exact kk
        · rw [e1, hm]
          exact zmk_2.mpr z.2
        · unfold Znx
          rw [if_neg e]
    refine br_f (by rw [hc]; exact nI_ge (by omega) (by omega)) ⟨vp_in_nI (by omega) (by omega), br_c (fun q => ?_) (fun q => ?_)⟩
    · rw [e1, hm] at q
      rw [hf (zmk_1.mp q)]
      exact go
    · rw [e1, hm] at q
      rw [zft_s (fun z => q (zmk_1.mpr z))] at go
      exact go
theorem x_stk {post : Int32 → Prop} {pc : Nat} {i j : Int32} (hP : ZPT pc px py pm qx qy ss cl) (hc : pC = nI pc) (k : post (zsk pc px py ss cl wD i j pc 0)) : wpX_isStroked post (tc, ob, ps, su, ep, sd, bc, mA, mB, oX, oY, gY, wD, pC, sC, tk, tv, cb, sk, sv, vk, vv, bp, br, bh, bn, bs, bl, px, py, pm, cr, sn, sx, sy, sm, sp, dg) i j :=
  ⟨pc + 1, x_stk_l hP hc pc 0 0 (by omega) (fun _ => rfl) k⟩
theorem y_stk_l {post : Int32 → Prop} {pc : Nat} {i j : Int32} (hP : ZPT pc px py pm qx qy ss cl) (hm : mn 0 = nI pc) :
    ∀ (d k : Nat), k + d = pc → post (zsk pc px py ss cl (wi 0) i j d k) → wY_stroked_2 post i j yt yo yh yi ya ye yp ys yc nw gn bg wd tk tv dg sk sv vk vv hw fr og lf st la fm fc gr wi mn qx qy ss cl cp nx ny (d + 1) (nI k) := by
  have h48 := hP.1
  intro d
  induction d with
  | zero =>
    intro k hk kk
    exact br_t (by rw [hm]; exact nI_le (by omega) (by omega)) kk
  | succ d ih =>
    intro k hk kk
    have h0 := hP.2.1 (by omega)
    obtain ⟨x1, x2, _⟩ := hP.2.2 k (by omega)
    have hn := znx_lt (ss := ss) (pc := pc) (k := k) (by omega)
    obtain ⟨x3, x4, _⟩ := hP.2.2 (Znx pc ss k) hn
    unfold zsk at kk
    rw [← x1, ← x2, ← x3, ← x4] at kk
    refine br_f (by rw [hm]; exact nI_ge (by omega) (by omega)) (y_next h0 hm h48 (by omega) ?_)
    by_cases e : (¬ (k + 1 < pc ∧ ss (k + 1) = 0)) ∧ cl (Zft ss k) = 0
    · rw [if_pos e] at kk
      rw [if_pos ⟨e.1, rfl, e.2⟩]
      exact br_t (by decide) (nm_r (nI_1 k) (ih (k + 1) (by omega) kk))
    · rw [if_neg e] at kk
      rw [if_neg (fun z => e ⟨z.1, z.2.2⟩)]
      refine br_f (nI_pos (by omega)) (y_touches (by omega) (by omega) (br_c (fun q => nm_r (nI_1 k) (ih (k + 1) (by omega) ?_)) (fun q => ?_)))
      · rw [if_pos q] at kk; exact kk
      · rw [if_neg q] at kk; exact kk
theorem y_stk {post : Int32 → Prop} {pc : Nat} {i j : Int32} (hP : ZPT pc px py pm qx qy ss cl) (hm : mn 0 = nI pc) (k : post (zsk pc px py ss cl (wi 0) i j pc 0)) : wpY_stroked post (yt, yo, yh, yi, ya, ye, yp, ys, yc, nw, gn, bg, wd, tk, tv, dg, sk, sv, vk, vv, hw, fr, og, lf, st, la, fm, fc, gr, wi, mn, qx, qy, ss, cl, cp, nx, ny) i j :=
  ⟨pc + 1, y_stk_l hP hm pc 0 (by omega) k⟩
end
end
section
/-! ===== rows of dots ===== -/
def zrow (C : Nat → Bool) : Nat → Int32
  | 0 => 0
  | n + 1 => if C n = true then zrow C n ||| ((1 : Int32) <<< (nI n &&& 31)) else zrow C n
theorem zrow_b (C : Nat → Bool) : ∀ n, n ≤ 24 → ∀ b, bt (zrow C n) b = (decide (b < n) && C b) := by
  intro n
  induction n with
  | zero => intro _ b; rw [decide_eq_false (by omega), Bool.false_and]; exact b_0 b
  | succ n ih =>
    intro hn b
    unfold zrow
    by_cases c : C n = true
    · rw [if_pos c, b_or, ih (by omega) b]
      rcases Nat.lt_or_ge b 32 with h | h
      · rw [zb_sh (by omega) h]
        by_cases e : b = n
        · subst e; rw [c]; simp
        · by_cases e2 : b < n
          · rw [decide_eq_true e2, decide_eq_true (by omega : b < n + 1), decide_eq_false e]; simp
          · rw [decide_eq_false e2, decide_eq_false (by omega : ¬ b < n + 1), decide_eq_false e]; simp
      · rw [b_big h, decide_eq_false (by omega : ¬ b < n), decide_eq_false (by omega : ¬ b < n + 1)]; simp
    · rw [if_neg c, ih (by omega) b]
      by_cases e : b = n
      · subst e
        rw [show C b = false by simpa using c]; simp
      · by_cases e2 : b < n
        · rw [decide_eq_true e2, decide_eq_true (by omega : b < n + 1)]
        · rw [decide_eq_false e2, decide_eq_false (by omega : ¬ b < n + 1)]
theorem zb_tst {x : Int32} {n : Nat} (hn : n < 32) : ((x >>> (nI n &&& 31)) &&& 1) = 0 ↔ bt x n = false := by
  have e0 : bt ((x >>> (nI n &&& 31)) &&& 1) 0 = bt x n := by
    rw [b_and, b_sshr n hn x (by omega), if_pos (by omega), zb_one]
    simp
  constructor
  · intro z
    rw [z, b_0] at e0
    exact e0.symm
  · intro z
    apply b_ext
    intro i hi
    by_cases h : i = 0
    · subst h; rw [e0, z, b_0]
    · rw [b_and, zb_one, decide_eq_false h, Bool.and_false, b_0]
theorem zb_par (r : Int32) : (r &&& 1) = 0 ↔ (r - r / 2 * 2) = 0 := by
  have e1 : (r &&& 1) = 0 ↔ r.toBitVec.toNat % 2 = 0 := by
    constructor
    · intro z
      have := congrArg (fun y : Int32 => y.toBitVec.toNat) z
      simp only [Int32.toBitVec_and, BitVec.toNat_and] at this
      rw [show (1 : Int32).toBitVec.toNat = 2 ^ 1 - 1 by decide, Nat.and_two_pow_sub_one_eq_mod, show (0 : Int32).toBitVec.toNat = 0 by decide] at this
      exact this
    · intro z
      apply Int32.toBitVec_inj.mp
      apply BitVec.eq_of_toNat_eq
      rw [Int32.toBitVec_and, BitVec.toNat_and, show (1 : Int32).toBitVec.toNat = 2 ^ 1 - 1 by decide, Nat.and_two_pow_sub_one_eq_mod, show (0 : Int32).toBitVec.toNat = 0 by decide]
      exact z
  have e2 : (r - r / 2 * 2) = 0 ↔ r.toInt.tmod 2 = 0 := by
    rw [← Int32.toInt_inj, rem_toInt, z32_0]
    exact Iff.rfl
  have e3 : r.toInt = r.toBitVec.toInt := rfl
  have e4 := BitVec.toInt_eq_toNat_cond r.toBitVec
  have e5 : r.toInt.tmod 2 = 0 ↔ r.toInt % 2 = 0 := by
    rw [← Int.dvd_iff_tmod_eq_zero, ← Int.dvd_iff_emod_eq_zero]
  rw [e1, e2, e5, e3, e4]
  split <;> omega
def ZC (op pc : Nat) (px py ss cl : Nat → Int32) (w : Int32) (i j : Nat) : Bool :=
  if op = 38 then decide (zsk pc px py ss cl w (nI i) (nI j) pc 0 ≠ 0) else if op = 36 ∨ op = 39 then decide (zwn pc px py ss (nI i) (nI j) pc 0 0 ≠ 0) else decide ((zwn pc px py ss (nI i) (nI j) pc 0 0 &&& 1) ≠ 0)
theorem zsk_01 {pc : Nat} {px py ss cl : Nat → Int32} {w i j : Int32} : ∀ d k, zsk pc px py ss cl w i j d k = 0 ∨ zsk pc px py ss cl w i j d k = 1 := by
  intro d
  induction d with
  | zero => intro k; exact Or.inl rfl
  | succ d ih =>
    intro k
    unfold zsk
    split
    · exact ih _
    · split
      · exact ih _
      · exact Or.inr rfl
section
variable {tc ob ps su ep sd bc mA mB oX oY gY wD pC sC yt yo yh yi ya ye yp ys yc nw gn bg wd : Int32} {tk tv cb sk sv vk vv bp br bh bn bs bl px py pm cr sn sx sy sm sp dg hw fr og lf st la fm fc gr wi mn qx qy ss cl cp nx ny : Nat → Int32}
theorem y_covers {post : Int32 → Prop} {op pc i j : Nat} {W : Int32} (h1 : 36 ≤ op) (h2 : op ≤ 40) (hP : ZPT pc px py pm qx qy ss cl) (hm : mn 0 = nI pc) (hw' : wi 0 = W) (k : post (if ZC op pc px py ss cl W i j = true then 1 else 0)) : wpY_covers post (yt, yo, yh, yi, ya, ye, yp, ys, yc, nw, gn, bg, wd, tk, tv, dg, sk, sv, vk, vv, hw, fr, og, lf, st, la, fm, fc, gr, wi, mn, qx, qy, ss, cl, cp, nx, ny) (nI op) (nI i) (nI j) := by
  subst hw'
  unfold ZC at k
  refine pk_eq op 38 (fun e => y_stk hP hm ?_) (fun e => y_wind hP hm ?_)
  · rw [if_pos e] at k
    rcases zsk_01 (pc := pc) (px := px) (py := py) (ss := ss) (cl := cl) (w := wi 0) (i := nI i) (j := nI j) pc 0 with z | z
    · rw [z] at k ⊢
      exact ⟨rfl, k⟩
    · rw [z] at k ⊢
      exact ⟨rfl, k⟩
  · rw [if_neg e] at k
    generalize zwn pc px py ss (nI i) (nI j) pc 0 0 = r at *
    have t33 : op = 36 ∨ op = 39 → wY_covers_33 post r yt yo yh yi ya ye yp ys yc nw gn bg wd tk tv dg sk sv vk vv hw fr og lf st la fm fc gr wi mn qx qy ss cl cp nx ny := by
      intro q
      rw [if_pos q] at k
      refine br_c (fun z => ?_) (fun z => ?_)
      · rw [z] at k; exact k
      · rw [if_pos (decide_eq_true z)] at k; exact k
    refine pk_eq op 36 (fun q => t33 (Or.inl q)) (fun q => pk_eq op 39 (fun q2 => t33 (Or.inr q2)) (fun q2 => ⟨(by decide), br_c (fun z => ?_) (fun z => ?_)⟩))
    · rw [if_neg (show ¬ (op = 36 ∨ op = 39) from fun z => z.elim q q2), if_neg (by rw [(zb_par r).mpr z]; decide)] at k; exact k
    · rw [if_neg (show ¬ (op = 36 ∨ op = 39) from fun z => z.elim q q2), if_pos (decide_eq_true (show (r &&& 1) ≠ 0 from fun y => z ((zb_par r).mp y)))] at k; exact k
theorem x_insRow {post : Int32 → Prop} {j : Nat} {eo : Int32} {C : Nat → Bool} {Wf : Nat → Int32} (hW : ∀ i, i < 24 → ∀ P : Int32 → Prop, P (Wf i) → wpX_windingAt P (tc, ob, ps, su, ep, sd, bc, mA, mB, oX, oY, gY, wD, pC, sC, tk, tv, cb, sk, sv, vk, vv, bp, br, bh, bn, bs, bl, px, py, pm, cr, sn, sx, sy, sm, sp, dg) (nI i) (nI j)) (h0 : eo = 0 → ∀ i, i < 24 → C i = decide (Wf i ≠ 0)) (h1 : eo ≠ 0 → ∀ i, i < 24 → C i = decide ((Wf i &&& 1) ≠ 0)) (K : post (zrow C 24)) :
    ∀ d i, i + d = 24 → wX_insideRow_5 post (nI j) eo tc ob ps su ep sd bc mA mB oX oY gY wD pC sC tk tv cb sk sv vk vv bp br bh bn bs bl px py pm cr sn sx sy sm sp dg (d + 1) (zrow C i) (nI i) := by
  intro d
  induction d with
  | zero =>
    intro i hi
    have : i = 24 := by omega
    subst this
    exact ql_t 24 24 (by omega) K
  | succ d ih =>
    intro i hi
    have nx1 := ih (i + 1) (by omega)
    have t0 : C i = false → wX_insideRow_50 post (wX_insideRow_5 post (nI j) eo tc ob ps su ep sd bc mA mB oX oY gY wD pC sC tk tv cb sk sv vk vv bp br bh bn bs bl px py pm cr sn sx sy sm sp dg (d + 1)) (nI j) eo (zrow C i) (nI i) 0 tc ob ps su ep sd bc mA mB oX oY gY wD pC sC tk tv cb sk sv vk vv bp br bh bn bs bl px py pm cr sn sx sy sm sp dg := by
      intro c
      unfold zrow at nx1
      rw [if_neg (by rw [c]; decide)] at nx1
      exact br_t rfl (nm_r (nI_1 i) nx1)
    have t1 : C i = true → wX_insideRow_50 post (wX_insideRow_5 post (nI j) eo tc ob ps su ep sd bc mA mB oX oY gY wD pC sC tk tv cb sk sv vk vv bp br bh bn bs bl px py pm cr sn sx sy sm sp dg (d + 1)) (nI j) eo (zrow C i) (nI i) 1 tc ob ps su ep sd bc mA mB oX oY gY wD pC sC tk tv cb sk sv vk vv bp br bh bn bs bl px py pm cr sn sx sy sm sp dg := by
      intro c
      unfold zrow at nx1
      rw [if_pos c] at nx1
      exact br_f (by decide) (nm_e (nm_r (nI_1 i) nx1))
    refine ql_f 24 i (by omega) (hW i (by omega) _ (br_c (fun e => br_c (fun z => t0 ?_) (fun z => t1 ?_)) (fun e => br_c (fun z => t0 ?_) (fun z => t1 ?_))))
    · rw [h0 e i (by omega), z]; decide
    · rw [h0 e i (by omega)]; exact decide_eq_true z
    · rw [h1 e i (by omega), z]; decide
    · rw [h1 e i (by omega)]; exact decide_eq_true z
theorem x_stkRow {post : Int32 → Prop} {j : Nat} {C : Nat → Bool} {Sf : Nat → Int32} (hW : ∀ i, i < 24 → ∀ P : Int32 → Prop, P (Sf i) → wpX_isStroked P (tc, ob, ps, su, ep, sd, bc, mA, mB, oX, oY, gY, wD, pC, sC, tk, tv, cb, sk, sv, vk, vv, bp, br, bh, bn, bs, bl, px, py, pm, cr, sn, sx, sy, sm, sp, dg) (nI i) (nI j)) (h0 : ∀ i, i < 24 → C i = decide (Sf i ≠ 0)) (K : post (zrow C 24)) :
    ∀ d i, i + d = 24 → wX_strokedRow_4 post (nI j) tc ob ps su ep sd bc mA mB oX oY gY wD pC sC tk tv cb sk sv vk vv bp br bh bn bs bl px py pm cr sn sx sy sm sp dg (d + 1) (zrow C i) (nI i) := by
  intro d
  induction d with
  | zero =>
    intro i hi
    have : i = 24 := by omega
    subst this
    exact ql_t 24 24 (by omega) K
  | succ d ih =>
    intro i hi
    have nx1 := ih (i + 1) (by omega)
    unfold zrow at nx1
    refine ql_f 24 i (by omega) (hW i (by omega) _ (br_c (fun z => ?_) (fun z => ?_)))
    · rw [if_neg (by rw [h0 i (by omega), z]; decide)] at nx1
      exact nm_r (nI_1 i) nx1
    · rw [if_pos (by rw [h0 i (by omega)]; exact decide_eq_true z)] at nx1
      exact nm_e (nm_r (nI_1 i) nx1)
theorem x_paintRow_l {post : SX → Prop} {j : Nat} {b : Int32} (hj : j < 24) (K : post (tc, ob, ps, su, ep, sd, bc, mA, mB, oX, oY, gY, wD, pC, sC, tk, tv, cb, sk, sv, vk, vv, bp, br, bh, bn, bs, bl, px, py, pm, cr, sn, sx, sy, sm, sp, zf dg (24 * j) (24 * j + 24) (fun e => if bt b (e - 24 * j) = true then gY else dg e))) :
    ∀ d i, i + d = 24 → wX_paintRow_2 post (nI j) b tc ob ps su ep sd bc mA mB oX oY gY wD pC sC (d + 1) (nI i) tk tv cb sk sv vk vv bp br bh bn bs bl px py pm cr sn sx sy sm sp (zf dg (24 * j) (24 * j + i) (fun e => if bt b (e - 24 * j) = true then gY else dg e)) := by
  intro d
  induction d with
  | zero =>
    intro i hi
    have : i = 24 := by omega
    subst this
    exact ql_t 24 24 (by omega) K
  | succ d ih =>
    intro i hi
    have st := zf_e (a := dg) (j := 24 * j) (e := 24 * j + i) (g := fun e => if bt b (e - 24 * j) = true then gY else dg e) (by omega)
    rw [show 24 * j + i - 24 * j = i by omega] at st
    have nx1 := ih (i + 1) (by omega)
    rw [show 24 * j + (i + 1) = 24 * j + i + 1 by omega, ← st] at nx1
    have e24 : (nI j * 24 + nI i) = nI (24 * j + i) := zm_24 j i
    refine ql_f 24 i (by omega) (br_c (fun z => ?_) (fun z => ?_))
    · rw [zb_tst (by omega)] at z
      rw [if_neg (by rw [z]; decide), zu_self (zf_hi (by omega))] at nx1
      exact nm_r (nI_1 i) nx1
    · rw [zb_tst (by omega)] at z
      rw [if_pos (by simpa using z)] at nx1
      refine ⟨by rw [e24]; exact vp_in_nI (by omega) (by omega), nm_r (show _ = upd (zf dg (24 * j) (24 * j + i) (fun e => if bt b (e - 24 * j) = true then gY else dg e)) (24 * j + i) gY by rw [e24, zc_i (by omega)]) (nm_r (nI_1 i) nx1)⟩
theorem x_paintRow {post : SX → Prop} {j : Nat} {b : Int32} (hj : j < 24) (K : post (tc, ob, ps, su, ep, sd, bc, mA, mB, oX, oY, gY, wD, pC, sC, tk, tv, cb, sk, sv, vk, vv, bp, br, bh, bn, bs, bl, px, py, pm, cr, sn, sx, sy, sm, sp, zf dg (24 * j) (24 * j + 24) (fun e => if bt b (e - 24 * j) = true then gY else dg e))) : wpX_paintRow post (tc, ob, ps, su, ep, sd, bc, mA, mB, oX, oY, gY, wD, pC, sC, tk, tv, cb, sk, sv, vk, vv, bp, br, bh, bn, bs, bl, px, py, pm, cr, sn, sx, sy, sm, sp, dg) (nI j) b := by
  have L := x_paintRow_l hj K 24 0 rfl
  rw [Nat.add_zero (24 * j), zf_z] at L
  exact ⟨25, L⟩
theorem zf_j {f g g' : Nat → Int32} {a b c : Nat} (h1 : a ≤ b) (h2 : b ≤ c) (hg : ∀ e, b ≤ e → e < c → g' e = g e) : zf (zf f a b g) b c g' = zf f a c g := by
  funext e
  unfold zf
  by_cases q : b ≤ e ∧ e < c
  · rw [if_pos q, if_pos (by omega), hg e q.1 q.2]
  · rw [if_neg q]
    by_cases q2 : a ≤ e ∧ e < b
    · rw [if_pos q2, if_pos (by omega)]
    · rw [if_neg q2, if_neg (by omega)]
/-- a row of the component: to what paint_44 asks -/
theorem x_row {post : SX → Prop} {J2 : Int32 → Int32 → Int32 → Int32 → Int32 → Int32 → Int32 → Int32 → Int32 → Int32 → Int32 → Int32 → Int32 → Int32 → Int32 → Int32 → (Nat → Int32) → (Nat → Int32) → (Nat → Int32) → (Nat → Int32) → (Nat → Int32) → (Nat → Int32) → (Nat → Int32) → (Nat → Int32) → (Nat → Int32) → (Nat → Int32) → (Nat → Int32) → (Nat → Int32) → (Nat → Int32) → (Nat → Int32) → (Nat → Int32) → (Nat → Int32) → (Nat → Int32) → (Nat → Int32) → (Nat → Int32) → (Nat → Int32) → (Nat → Int32) → (Nat → Int32) → (Nat → Int32) → Prop} {op pc j : Nat} {W : Int32} (h1 : 36 ≤ op) (h2 : op ≤ 40) (hj : j < 24) (hP : ZPT pc px py pm qx qy ss cl) (hc : pC = nI pc) (hw' : wD = W)
    (k : wX_paint_44 post J2 (nI op) (nI j) (zrow (fun i => ZC op pc px py ss cl W i j) 24) tc ob ps su ep sd bc mA mB oX oY gY wD pC sC tk tv cb sk sv vk vv bp br bh bn bs bl px py pm cr sn sx sy sm sp dg) :
    ((nI op = 38 → (wpX_strokedRow (fun r => wX_paint_44 post J2 (nI op) (nI j) r tc ob ps su ep sd bc mA mB oX oY gY wD pC sC tk tv cb sk sv vk vv bp br bh bn bs bl px py pm cr sn sx sy sm sp dg) (tc, ob, ps, su, ep, sd, bc, mA, mB, oX, oY, gY, wD, pC, sC, tk, tv, cb, sk, sv, vk, vv, bp, br, bh, bn, bs, bl, px, py, pm, cr, sn, sx, sy, sm, sp, dg) (nI j))) ∧ (¬ nI op = 38 → ((nI op = 37 → (wX_paint_36 post J2 (nI op) (nI j) (nI j) tc ob ps su ep sd bc mA mB oX oY gY wD pC sC tk tv cb sk sv vk vv bp br bh bn bs bl px py pm cr sn sx sy sm sp dg)) ∧ (¬ nI op = 37 → ((nI op = 40 → (wX_paint_36 post J2 (nI op) (nI j) (nI j) tc ob ps su ep sd bc mA mB oX oY gY wD pC sC tk tv cb sk sv vk vv bp br bh bn bs bl px py pm cr sn sx sy sm sp dg)) ∧ (¬ nI op = 40 → (wX_paint_41 post J2 (nI op) (nI j) 0 (nI j) tc ob ps su ep sd bc mA mB oX oY gY wD pC sC tk tv cb sk sv vk vv bp br bh bn bs bl px py pm cr sn sx sy sm sp dg))))))) := by
  subst hw'
  have t41 : ∀ eo : Int32, op ≠ 38 → (eo = 0 → op = 36 ∨ op = 39) → (eo ≠ 0 → op ≠ 36 ∧ op ≠ 39) → wX_paint_41 post J2 (nI op) (nI j) eo (nI j) tc ob ps su ep sd bc mA mB oX oY gY wD pC sC tk tv cb sk sv vk vv bp br bh bn bs bl px py pm cr sn sx sy sm sp dg := by
    intro eo n38 q0 q1
    unfold wX_paint_41
    exact ⟨25, x_insRow (C := fun i => ZC op pc px py ss cl wD i j) (Wf := fun i => zwn pc px py ss (nI i) (nI j) pc 0 0) (fun i hi P hp => x_wind hP hc hi hj hp) (fun e i hi => by unfold ZC; rw [if_neg n38, if_pos (q0 e)]) (fun e i hi => by unfold ZC; rw [if_neg n38, if_neg (fun z => z.elim (q1 e).1 (q1 e).2)]) k 24 0 rfl⟩
  refine pk_eq op 38 (fun e => ⟨25, x_stkRow (C := fun i => ZC op pc px py ss cl wD i j) (Sf := fun i => zsk pc px py ss cl wD (nI i) (nI j) pc 0) (fun i hi P hp => x_stk hP hc hp) (fun i hi => by unfold ZC; rw [if_pos e]) k 24 0 rfl⟩) (fun e => pk_eq op 37 (fun e2 => ?_) (fun e2 => pk_eq op 40 (fun e3 => ?_) (fun e3 => t41 0 e (fun _ => by omega) (fun z => absurd rfl z))))
  · unfold wX_paint_36
    exact t41 1 e (fun z => absurd z (by decide)) (fun _ => by omega)
  · unfold wX_paint_36
    exact t41 1 e (fun z => absurd z (by decide)) (fun _ => by omega)
theorem x_paint_a {post : SX → Prop} {op pc : Nat} {W gv : Int32} (h1 : 36 ≤ op) (h2 : op ≤ 38) (hP : ZPT pc px py pm qx qy ss cl) (hc : pC = nI pc) (hw' : wD = W) (hgv : gY = gv) (hC : ZCP cr cp) (K : post (tc, ob, ps, su, ep, sd, bc, mA, mB, oX, oY, gY, wD, 0, sC, tk, tv, cb, sk, sv, vk, vv, bp, br, bh, bn, bs, bl, px, py, pm, cr, sn, sx, sy, sm, sp, zf dg 0 576 (fun e => if ZC op pc px py ss cl W (e % 24) (e / 24) = true ∧ cp e ≠ 0 then gv else dg e))) :
    ∀ d j, j + d = 24 → wX_paint_2 post (nI op) (d + 1) (nI j) tc ob ps su ep sd bc mA mB oX oY gY wD pC sC tk tv cb sk sv vk vv bp br bh bn bs bl px py pm cr sn sx sy sm sp (zf dg 0 (24 * j) (fun e => if ZC op pc px py ss cl W (e % 24) (e / 24) = true ∧ cp e ≠ 0 then gv else dg e)) := by
  subst hgv
  intro d
  induction d with
  | zero =>
    intro j hj
    have : j = 24 := by omega
    subst this
    exact ql_t 24 24 (by omega) (pk_eq op 39 (fun e => by omega) (fun _ => pk_eq op 40 (fun e => by omega) (fun _ => K)))
  | succ d ih =>
    intro j hj
    refine ql_f 24 j (by omega) (x_row h1 (by omega) (by omega) hP hc hw' (pk_eq op 39 (fun e => by omega) (fun _ => pk_eq op 40 (fun e => by omega) (fun _ => ⟨vp_in_nI (by omega) (by omega), x_paintRow (by omega) (nm_r (nI_1 j) ?_)⟩))))
    rw [zf_j (a := 0) (b := 24 * j) (c := 24 * j + 24) (by omega) (by omega) (fun e q1 q2 => ?_)]
    · exact ih (j + 1) (by omega)
    · rw [zc_i (n := j) (by omega), b_and, zrow_b _ 24 (by omega), decide_eq_true (by omega : e - 24 * j < 24), Bool.true_and, ((hC j (by omega)).1 (e - 24 * j) (by omega)).2, show 24 * j + (e - 24 * j) = e by omega, show e % 24 = e - 24 * j by omega, show e / 24 = j by omega, zf_hi q1]
      by_cases c1 : ZC op pc px py ss cl W (e - 24 * j) j = true
      · by_cases c2 : cp e = 0
        · rw [if_neg (by rw [c2]; simp), if_neg (fun z => z.2 c2)]
        · rw [if_pos (by rw [c1, decide_eq_true c2]; rfl), if_pos ⟨c1, c2⟩]
      · rw [if_neg (by rw [show ZC op pc px py ss cl W (e - 24 * j) j = false by simpa using c1]; simp), if_neg (fun z => c1 z.1)]
theorem x_paint_c {post : SX → Prop} {op pc : Nat} {W : Int32} (h1 : 39 ≤ op) (h2 : op ≤ 40) (hP : ZPT pc px py pm qx qy ss cl) (hc : pC = nI pc) (hw' : wD = W) (K : post (tc, ob, ps, su, ep, sd, bc, mA, mB, oX, oY, gY, wD, pC, sC, tk, tv, cb, sk, sv, vk, vv, bp, br, bh, bn, bs, bl, px, py, pm, zf cr 0 24 (fun j => cr j &&& zrow (fun i => ZC op pc px py ss cl W i j) 24), sn, sx, sy, sm, sp, dg)) :
    ∀ d j, j + d = 24 → wX_paint_2 post (nI op) (d + 1) (nI j) tc ob ps su ep sd bc mA mB oX oY gY wD pC sC tk tv cb sk sv vk vv bp br bh bn bs bl px py pm (zf cr 0 j (fun j => cr j &&& zrow (fun i => ZC op pc px py ss cl W i j) 24)) sn sx sy sm sp dg := by
  intro d
  induction d with
  | zero =>
    intro j hj
    have : j = 24 := by omega
    subst this
    exact ql_t 24 24 (by omega) (pk_eq op 39 (fun e => K) (fun e1 => pk_eq op 40 (fun e => K) (fun e2 => by omega)))
  | succ d ih =>
    intro j hj
    have st := zf_e (a := cr) (j := 0) (e := j) (g := (fun j => cr j &&& zrow (fun i => ZC op pc px py ss cl W i j) 24)) (by omega)
    have nx1 := ih (j + 1) (by omega)
    rw [← st] at nx1
    have e : (nI j).toNatClampNeg = j := zc_i (by omega)
    have t57 : wX_paint_57 post (wX_paint_2 post (nI op) (d + 1)) (nI op) (nI j) (zrow (fun i => ZC op pc px py ss cl W i j) 24) tc ob ps su ep sd bc mA mB oX oY gY wD pC sC tk tv cb sk sv vk vv bp br bh bn bs bl px py pm (zf cr 0 j (fun j => cr j &&& zrow (fun i => ZC op pc px py ss cl W i j) 24)) sn sx sy sm sp dg := by
      refine ⟨vp_in_nI (by omega) (by omega), vp_in_nI (by omega) (by omega), nm_r (show _ = upd (zf cr 0 j (fun j => cr j &&& zrow (fun i => ZC op pc px py ss cl W i j) 24)) j (cr j &&& zrow (fun i => ZC op pc px py ss cl W i j) 24) by rw [e, zf_hi (by omega)]) (nm_r (nI_1 j) nx1)⟩
    refine ql_f 24 j (by omega) (x_row (by omega) h2 (by omega) hP hc hw' (pk_eq op 39 (fun _ => t57) (fun e1 => pk_eq op 40 (fun _ => t57) (fun e2 => by omega))))
theorem zd_24 {e : Nat} (he : e < 576) : nI e - nI e / 24 * 24 = nI (e % 24) := pk_rem (d := 24) (by omega) (by omega) (by omega)
theorem zq_24 {e : Nat} (he : e < 576) : nI e / 24 = nI (e / 24) := pk_div (d := 24) (by omega) (by omega) (by omega)
theorem y_paint_a {post : SY → Prop} {op pc : Nat} {W gv : Int32} (h1 : 36 ≤ op) (h2 : op ≤ 38) (hP : ZPT pc px py pm qx qy ss cl) (hm : mn 0 = nI pc) (hw' : wi 0 = W) (hgv : gr 0 = gv) (K : wY_paint_122 post (nI op) yt yo yh yi ya ye yp ys yc nw gn bg wd tk tv (zf dg 0 576 (fun e => if ZC op pc px py ss cl W (e % 24) (e / 24) = true ∧ cp e ≠ 0 then gv else dg e)) sk sv vk vv hw fr og lf st la fm fc gr wi mn qx qy ss cl cp nx ny) :
    ∀ d e, e + d = 576 → wY_paint_45 post (nI op) yt yo yh yi ya ye yp ys yc nw gn bg wd (d + 1) (nI e) tk tv (zf dg 0 e (fun e => if ZC op pc px py ss cl W (e % 24) (e / 24) = true ∧ cp e ≠ 0 then gv else dg e)) sk sv vk vv hw fr og lf st la fm fc gr wi mn qx qy ss cl cp nx ny := by
  intro d
  induction d with
  | zero =>
    intro e he
    have : e = 576 := by omega
    subst this
    exact ql_t 576 576 (by omega) K
  | succ d ih =>
    intro e he
    have st := zf_e (a := dg) (j := 0) (e := e) (g := (fun e => if ZC op pc px py ss cl W (e % 24) (e / 24) = true ∧ cp e ≠ 0 then gv else dg e)) (by omega)
    have nx1 := ih (e + 1) (by omega)
    rw [← st] at nx1
    have ec : (nI e).toNatClampNeg = e := zc_i (by omega)
    refine ql_f 576 e (by omega) ⟨vp_in_nI (by omega) (by omega), br_c (fun z => ?_) (fun z => ⟨(by decide), (by decide), ?_⟩)⟩
    · rw [ec] at z
      rw [if_neg (fun y => y.2 z), zu_self (zf_hi (by omega))] at nx1
      exact nm_r (nI_1 e) nx1
    · rw [ec] at z
      rw [zd_24 (by omega), zq_24 (by omega)]
      refine y_covers h1 (by omega) hP hm hw' (ql_t op 38 h2 (br_c (fun y => ?_) (fun y => ql_t op 38 h2 ⟨vp_in_nI (by omega) (by omega), nm_r (show _ = upd (zf dg 0 e (fun e => if ZC op pc px py ss cl W (e % 24) (e / 24) = true ∧ cp e ≠ 0 then gv else dg e)) e gv by rw [ec, hgv]) (nm_r (nI_1 e) ?_)⟩)))
      · have c : ¬ ZC op pc px py ss cl W (e % 24) (e / 24) = true := fun c => by rw [if_pos c] at y; exact absurd y (by decide)
        rw [if_neg (fun w => c w.1), zu_self (zf_hi (by omega))] at nx1
        exact nm_r (nI_1 e) nx1
      · have c : ZC op pc px py ss cl W (e % 24) (e / 24) = true := by
          by_cases c : ZC op pc px py ss cl W (e % 24) (e / 24) = true
          · exact c
          · rw [if_neg c] at y; exact absurd rfl y
        rw [if_pos ⟨c, z⟩] at nx1
        exact nx1
theorem y_paint_c {post : SY → Prop} {op pc : Nat} {W : Int32} (h1 : 39 ≤ op) (h2 : op ≤ 40) (hP : ZPT pc px py pm qx qy ss cl) (hm : mn 0 = nI pc) (hw' : wi 0 = W) (K : wY_paint_122 post (nI op) yt yo yh yi ya ye yp ys yc nw gn bg wd tk tv dg sk sv vk vv hw fr og lf st la fm fc gr wi mn qx qy ss cl (zf cp 0 576 (fun e => if ZC op pc px py ss cl W (e % 24) (e / 24) = true then cp e else 0)) nx ny) :
    ∀ d e, e + d = 576 → wY_paint_45 post (nI op) yt yo yh yi ya ye yp ys yc nw gn bg wd (d + 1) (nI e) tk tv dg sk sv vk vv hw fr og lf st la fm fc gr wi mn qx qy ss cl (zf cp 0 e (fun e => if ZC op pc px py ss cl W (e % 24) (e / 24) = true then cp e else 0)) nx ny := by
  intro d
  induction d with
  | zero =>
    intro e he
    have : e = 576 := by omega
    subst this
    exact ql_t 576 576 (by omega) K
  | succ d ih =>
    intro e he
    have st := zf_e (a := cp) (j := 0) (e := e) (g := (fun e => if ZC op pc px py ss cl W (e % 24) (e / 24) = true then cp e else 0)) (by omega)
    have nx1 := ih (e + 1) (by omega)
    rw [← st] at nx1
    have ec : (nI e).toNatClampNeg = e := zc_i (by omega)
    refine ql_f 576 e (by omega) ⟨vp_in_nI (by omega) (by omega), br_c (fun z => ?_) (fun z => ⟨(by decide), (by decide), ?_⟩)⟩
    · rw [ec, zf_hi (by omega)] at z
      rw [z, ite_self, zu_self (by rw [zf_hi (by omega)]; exact z)] at nx1
      exact nm_r (nI_1 e) nx1
    · rw [zd_24 (by omega), zq_24 (by omega)]
      refine y_covers (by omega) h2 hP hm hw' (ql_f op 38 (by omega) (br_c (fun y => ?_) (fun y => ql_f op 38 (by omega) ⟨vp_in_nI (by omega) (by omega), nm_r (show _ = upd (zf cp 0 e (fun e => if ZC op pc px py ss cl W (e % 24) (e / 24) = true then cp e else 0)) e 0 by rw [ec, zb_0]) (nm_r (nI_1 e) ?_)⟩)))
      · have c : ZC op pc px py ss cl W (e % 24) (e / 24) = true := by
          by_cases c : ZC op pc px py ss cl W (e % 24) (e / 24) = true
          · exact c
          · rw [if_neg c] at y; exact absurd y (by decide)
        rw [if_pos c, zu_self (zf_hi (by omega))] at nx1
        exact nm_r (nI_1 e) nx1
      · have c : ¬ ZC op pc px py ss cl W (e % 24) (e / 24) = true := fun c => by rw [if_pos c] at y; exact absurd rfl y
        rw [if_neg c] at nx1
        exact nx1
theorem zcp_clip {op pc : Nat} {W : Int32} (hC : ZCP cr cp) : ZCP (zf cr 0 24 (fun j => cr j &&& zrow (fun i => ZC op pc px py ss cl W i j) 24)) (zf cp 0 576 (fun e => if ZC op pc px py ss cl W (e % 24) (e / 24) = true then cp e else 0)) := by
  intro j hj
  have h := hC j hj
  rw [zf_in (by omega) hj]
  refine ⟨fun i hi => ?_, fun i hi => ?_⟩
  · obtain ⟨g1, g2⟩ := h.1 i hi
    rw [zf_in (by omega) (by omega), show (24 * j + i) % 24 = i by omega, show (24 * j + i) / 24 = j by omega, b_and, zrow_b _ 24 (by omega), decide_eq_true hi, Bool.true_and, g2]
    by_cases c : ZC op pc px py ss cl W i j = true
    · rw [if_pos c, c, Bool.and_true]
      exact ⟨g1, rfl⟩
    · rw [if_neg c, show ZC op pc px py ss cl W i j = false by simpa using c, Bool.and_false]
      exact ⟨Or.inl rfl, rfl⟩
  · rw [b_and, h.2 i hi, Bool.false_and]
theorem st_fill {t h n a c s pc : Nat} {PX : Int32 → SX → Prop} (hR : ZR t h n a c mA mB oX oY gY wD pC tk tv cb sk sv vk vv bp br bh bn bs bl px py pm cr sn sx sy sm sp hw fr og lf st la fm fc gr wi mn qx qy ss cl cp) (ha : a < t) (hk : tk a = 1) (hv : tv a = nI 36) (hpc : pC = nI pc) (hp48 : pc ≤ 48) (hE : ZE1 36 h sk pc = 0)
    (H : ∀ (e : Int32) (u' : SX) (v' : SY), ZStep a (s + 1) e u' v' → (∀ PY : SY → Prop, PY v' → wpY_execute PY (nI t, 0, nI h, nI n, nI a, 0, -1, nI (s + 1), nI c, nw, gn, bg, wd, tk, tv, dg, sk, sv, vk, vv, hw, fr, og, lf, st, la, fm, fc, gr, wi, mn, qx, qy, ss, cl, cp, nx, ny)) → PX e u') : wpX_execute PX (nI t, 0, nI a, nI s, -1, nI h, nI n, mA, mB, oX, oY, gY, wD, pC, nI c, tk, tv, cb, sk, sv, vk, vv, bp, br, bh, bn, bs, bl, px, py, pm, cr, sn, sx, sy, sm, sp, dg) (nI a) := by
  have hR' := hR
  obtain ⟨hT, hS, hV, hF, hPO, hG, hSV⟩ := hR
  have ht := hT.1
  have hh := hS.1
  have hmn := zg_mn hG hpc
  have hi : vp_in (nI a) 100 := vp_in_nI (by omega) (by omega)
  have e : (nI a).toNatClampNeg = a := zc_i (by omega)
  have ek : tk (nI a).toNatClampNeg = 1 := by rw [e]; exact hk
  have ev : tv (nI a).toNatClampNeg = nI 36 := by rw [e]; exact hv
  have hpn := po_next hPO ha (by rw [hk]; decide) (by rw [hk]; decide)
  obtain ⟨z1, z2, z3, z4⟩ := ze_0 hE
  have z1 : 0 ≤ h := z1
  have hP := zg_pt hG hpc hp48
  have hgr := hG.2.1
  have hwi := hG.2.2.1
  have hC := hG.2.2.2.2.2
  refine nm_r (nI_1 s) (nm_r (nI_1 a) ⟨hi, br_t ek ⟨hi, nm_r ev (x_oe0 (by decide) hh hp48 rfl hpc hE (br_t rfl (br_t (by decide) (br_f (by decide) (br_f (by decide) (br_f (by decide) (br_t (by decide) (br_f (by decide) (br_f (by decide) (br_f (by decide) (br_f (by decide) (br_f (by decide) (?_)))))))))))))⟩⟩)
  have LX := fun (post : SX → Prop) (K : post (nI t, 0, nI (a + 1), nI (s + 1), -1, nI h, nI n, mA, mB, oX, oY, gY, wD, 0, nI c, tk, tv, cb, sk, sv, vk, vv, bp, br, bh, bn, bs, bl, px, py, pm, cr, sn, sx, sy, sm, sp, zf dg 0 576 (fun e => if ZC 36 pc px py ss cl wD (e % 24) (e / 24) = true ∧ cp e ≠ 0 then gY else dg e))) => x_paint_a (op := 36) (by decide) (by decide) hP hpc rfl rfl hC K 24 0 rfl
  rw [Nat.mul_zero] at LX
  simp only [zf_z] at LX
  refine ⟨25, LX _ (x_153 (n := 0) (by decide) rfl z1 rfl (H 0 _ (nI t, 0, nI h, nI n, nI a + 1, 0, -1, nI (s + 1), nI c, 0, 0, 0, 0, tk, tv, zf dg 0 576 (fun e => if ZC 36 pc px py ss cl wD (e % 24) (e / 24) = true ∧ cp e ≠ 0 then gY else dg e), sk, sv, vk, vv, hw, fr, og, lf, st, la, fm, fc, gr, wi, upd mn 0 0, qx, qy, ss, cl, cp, nx, ny) (zs_ok ⟨hT, hS, hV, hF, hpn, zgs_path (q := 0) hG zpt_0, zsv_up hSV zr_i zr_i zr_i zr_i zr_u zr_i zr_i zr_i zr_i zr_i⟩ rfl (nI_1 a) rfl rfl rfl rfl rfl rfl) (fun PY hp => ?_)))⟩
  refine ⟨hi, nm_r ev ⟨hi, nm_r ek (br_f (by decide) (br_f (by decide) (br_f (by decide) (br_t rfl ?_))))⟩⟩
  unfold wY_execute_245 wpY_operate
  refine y_check (by decide) hh hp48 (zst_k hS) rfl hmn (fun z => absurd hE z) (fun _ z => absurd z (by decide)) (fun _ _ _ => y_ck87 rfl hh z1 hmn hp48 (by decide) (by decide) (by decide) (by decide) (by decide) (by decide) (by decide) (by decide) (by decide) (by decide) (by decide) (y_ck335n (by decide) (by decide) (by decide) (by decide) (by decide) (by decide) (br_t rfl ?_)))
  refine br_t (by decide) (br_t (by decide) (br_t (by decide) (br_f (by decide) (br_f (by decide) (?_)))))
  have LY := fun (post : SY → Prop) (K : wY_paint_122 post (nI 36) (nI t) 0 (nI h) (nI n) (nI a) 0 (-1) (nI (s + 1)) (nI c) 0 0 0 0 tk tv (zf dg 0 576 (fun e => if ZC 36 pc px py ss cl wD (e % 24) (e / 24) = true ∧ cp e ≠ 0 then gY else dg e)) sk sv vk vv hw fr og lf st la fm fc gr wi mn qx qy ss cl cp nx ny) => y_paint_a (op := 36) (by decide) (by decide) hP hmn hwi hgr K 576 0 rfl
  simp only [zf_z] at LY
  exact br_f (by decide) (br_f (by decide) ⟨577, LY _ (br_f (by decide) (nm_e ⟨1, br_f (by decide) (br_f (by decide) (y_p165 (by decide) hp))⟩))⟩)
theorem st_eofill {t h n a c s pc : Nat} {PX : Int32 → SX → Prop} (hR : ZR t h n a c mA mB oX oY gY wD pC tk tv cb sk sv vk vv bp br bh bn bs bl px py pm cr sn sx sy sm sp hw fr og lf st la fm fc gr wi mn qx qy ss cl cp) (ha : a < t) (hk : tk a = 1) (hv : tv a = nI 37) (hpc : pC = nI pc) (hp48 : pc ≤ 48) (hE : ZE1 37 h sk pc = 0)
    (H : ∀ (e : Int32) (u' : SX) (v' : SY), ZStep a (s + 1) e u' v' → (∀ PY : SY → Prop, PY v' → wpY_execute PY (nI t, 0, nI h, nI n, nI a, 0, -1, nI (s + 1), nI c, nw, gn, bg, wd, tk, tv, dg, sk, sv, vk, vv, hw, fr, og, lf, st, la, fm, fc, gr, wi, mn, qx, qy, ss, cl, cp, nx, ny)) → PX e u') : wpX_execute PX (nI t, 0, nI a, nI s, -1, nI h, nI n, mA, mB, oX, oY, gY, wD, pC, nI c, tk, tv, cb, sk, sv, vk, vv, bp, br, bh, bn, bs, bl, px, py, pm, cr, sn, sx, sy, sm, sp, dg) (nI a) := by
  have hR' := hR
  obtain ⟨hT, hS, hV, hF, hPO, hG, hSV⟩ := hR
  have ht := hT.1
  have hh := hS.1
  have hmn := zg_mn hG hpc
  have hi : vp_in (nI a) 100 := vp_in_nI (by omega) (by omega)
  have e : (nI a).toNatClampNeg = a := zc_i (by omega)
  have ek : tk (nI a).toNatClampNeg = 1 := by rw [e]; exact hk
  have ev : tv (nI a).toNatClampNeg = nI 37 := by rw [e]; exact hv
  have hpn := po_next hPO ha (by rw [hk]; decide) (by rw [hk]; decide)
  obtain ⟨z1, z2, z3, z4⟩ := ze_0 hE
  have z1 : 0 ≤ h := z1
  have hP := zg_pt hG hpc hp48
  have hgr := hG.2.1
  have hwi := hG.2.2.1
  have hC := hG.2.2.2.2.2
  refine nm_r (nI_1 s) (nm_r (nI_1 a) ⟨hi, br_t ek ⟨hi, nm_r ev (x_oe0 (by decide) hh hp48 rfl hpc hE (br_t rfl (br_t (by decide) (br_f (by decide) (br_f (by decide) (br_f (by decide) (br_t (by decide) (br_f (by decide) (br_f (by decide) (br_f (by decide) (br_f (by decide) (br_f (by decide) (?_)))))))))))))⟩⟩)
  have LX := fun (post : SX → Prop) (K : post (nI t, 0, nI (a + 1), nI (s + 1), -1, nI h, nI n, mA, mB, oX, oY, gY, wD, 0, nI c, tk, tv, cb, sk, sv, vk, vv, bp, br, bh, bn, bs, bl, px, py, pm, cr, sn, sx, sy, sm, sp, zf dg 0 576 (fun e => if ZC 37 pc px py ss cl wD (e % 24) (e / 24) = true ∧ cp e ≠ 0 then gY else dg e))) => x_paint_a (op := 37) (by decide) (by decide) hP hpc rfl rfl hC K 24 0 rfl
  rw [Nat.mul_zero] at LX
  simp only [zf_z] at LX
  refine ⟨25, LX _ (x_153 (n := 0) (by decide) rfl z1 rfl (H 0 _ (nI t, 0, nI h, nI n, nI a + 1, 0, -1, nI (s + 1), nI c, 0, 0, 0, 0, tk, tv, zf dg 0 576 (fun e => if ZC 37 pc px py ss cl wD (e % 24) (e / 24) = true ∧ cp e ≠ 0 then gY else dg e), sk, sv, vk, vv, hw, fr, og, lf, st, la, fm, fc, gr, wi, upd mn 0 0, qx, qy, ss, cl, cp, nx, ny) (zs_ok ⟨hT, hS, hV, hF, hpn, zgs_path (q := 0) hG zpt_0, zsv_up hSV zr_i zr_i zr_i zr_i zr_u zr_i zr_i zr_i zr_i zr_i⟩ rfl (nI_1 a) rfl rfl rfl rfl rfl rfl) (fun PY hp => ?_)))⟩
  refine ⟨hi, nm_r ev ⟨hi, nm_r ek (br_f (by decide) (br_f (by decide) (br_f (by decide) (br_t rfl ?_))))⟩⟩
  unfold wY_execute_245 wpY_operate
  refine y_check (by decide) hh hp48 (zst_k hS) rfl hmn (fun z => absurd hE z) (fun _ z => absurd z (by decide)) (fun _ _ _ => y_ck87 rfl hh z1 hmn hp48 (by decide) (by decide) (by decide) (by decide) (by decide) (by decide) (by decide) (by decide) (by decide) (by decide) (by decide) (y_ck335n (by decide) (by decide) (by decide) (by decide) (by decide) (by decide) (br_t rfl ?_)))
  refine br_t (by decide) (br_t (by decide) (br_t (by decide) (br_f (by decide) (br_f (by decide) (?_)))))
  have LY := fun (post : SY → Prop) (K : wY_paint_122 post (nI 37) (nI t) 0 (nI h) (nI n) (nI a) 0 (-1) (nI (s + 1)) (nI c) 0 0 0 0 tk tv (zf dg 0 576 (fun e => if ZC 37 pc px py ss cl wD (e % 24) (e / 24) = true ∧ cp e ≠ 0 then gY else dg e)) sk sv vk vv hw fr og lf st la fm fc gr wi mn qx qy ss cl cp nx ny) => y_paint_a (op := 37) (by decide) (by decide) hP hmn hwi hgr K 576 0 rfl
  simp only [zf_z] at LY
  exact br_f (by decide) (br_f (by decide) ⟨577, LY _ (br_f (by decide) (nm_e ⟨1, br_f (by decide) (br_f (by decide) (y_p165 (by decide) hp))⟩))⟩)
theorem st_stroke {t h n a c s pc : Nat} {PX : Int32 → SX → Prop} (hR : ZR t h n a c mA mB oX oY gY wD pC tk tv cb sk sv vk vv bp br bh bn bs bl px py pm cr sn sx sy sm sp hw fr og lf st la fm fc gr wi mn qx qy ss cl cp) (ha : a < t) (hk : tk a = 1) (hv : tv a = nI 38) (hpc : pC = nI pc) (hp48 : pc ≤ 48) (hE : ZE1 38 h sk pc = 0)
    (H : ∀ (e : Int32) (u' : SX) (v' : SY), ZStep a (s + 1) e u' v' → (∀ PY : SY → Prop, PY v' → wpY_execute PY (nI t, 0, nI h, nI n, nI a, 0, -1, nI (s + 1), nI c, nw, gn, bg, wd, tk, tv, dg, sk, sv, vk, vv, hw, fr, og, lf, st, la, fm, fc, gr, wi, mn, qx, qy, ss, cl, cp, nx, ny)) → PX e u') : wpX_execute PX (nI t, 0, nI a, nI s, -1, nI h, nI n, mA, mB, oX, oY, gY, wD, pC, nI c, tk, tv, cb, sk, sv, vk, vv, bp, br, bh, bn, bs, bl, px, py, pm, cr, sn, sx, sy, sm, sp, dg) (nI a) := by
  have hR' := hR
  obtain ⟨hT, hS, hV, hF, hPO, hG, hSV⟩ := hR
  have ht := hT.1
  have hh := hS.1
  have hmn := zg_mn hG hpc
  have hi : vp_in (nI a) 100 := vp_in_nI (by omega) (by omega)
  have e : (nI a).toNatClampNeg = a := zc_i (by omega)
  have ek : tk (nI a).toNatClampNeg = 1 := by rw [e]; exact hk
  have ev : tv (nI a).toNatClampNeg = nI 38 := by rw [e]; exact hv
  have hpn := po_next hPO ha (by rw [hk]; decide) (by rw [hk]; decide)
  obtain ⟨z1, z2, z3, z4⟩ := ze_0 hE
  have z1 : 0 ≤ h := z1
  have hP := zg_pt hG hpc hp48
  have hgr := hG.2.1
  have hwi := hG.2.2.1
  have hC := hG.2.2.2.2.2
  refine nm_r (nI_1 s) (nm_r (nI_1 a) ⟨hi, br_t ek ⟨hi, nm_r ev (x_oe0 (by decide) hh hp48 rfl hpc hE (br_t rfl (br_t (by decide) (br_f (by decide) (br_f (by decide) (br_f (by decide) (br_t (by decide) (br_f (by decide) (br_f (by decide) (br_f (by decide) (br_f (by decide) (br_f (by decide) (?_)))))))))))))⟩⟩)
  have LX := fun (post : SX → Prop) (K : post (nI t, 0, nI (a + 1), nI (s + 1), -1, nI h, nI n, mA, mB, oX, oY, gY, wD, 0, nI c, tk, tv, cb, sk, sv, vk, vv, bp, br, bh, bn, bs, bl, px, py, pm, cr, sn, sx, sy, sm, sp, zf dg 0 576 (fun e => if ZC 38 pc px py ss cl wD (e % 24) (e / 24) = true ∧ cp e ≠ 0 then gY else dg e))) => x_paint_a (op := 38) (by decide) (by decide) hP hpc rfl rfl hC K 24 0 rfl
  rw [Nat.mul_zero] at LX
  simp only [zf_z] at LX
  refine ⟨25, LX _ (x_153 (n := 0) (by decide) rfl z1 rfl (H 0 _ (nI t, 0, nI h, nI n, nI a + 1, 0, -1, nI (s + 1), nI c, 0, 0, 0, 0, tk, tv, zf dg 0 576 (fun e => if ZC 38 pc px py ss cl wD (e % 24) (e / 24) = true ∧ cp e ≠ 0 then gY else dg e), sk, sv, vk, vv, hw, fr, og, lf, st, la, fm, fc, gr, wi, upd mn 0 0, qx, qy, ss, cl, cp, nx, ny) (zs_ok ⟨hT, hS, hV, hF, hpn, zgs_path (q := 0) hG zpt_0, zsv_up hSV zr_i zr_i zr_i zr_i zr_u zr_i zr_i zr_i zr_i zr_i⟩ rfl (nI_1 a) rfl rfl rfl rfl rfl rfl) (fun PY hp => ?_)))⟩
  refine ⟨hi, nm_r ev ⟨hi, nm_r ek (br_f (by decide) (br_f (by decide) (br_f (by decide) (br_t rfl ?_))))⟩⟩
  unfold wY_execute_245 wpY_operate
  refine y_check (by decide) hh hp48 (zst_k hS) rfl hmn (fun z => absurd hE z) (fun _ z => absurd z (by decide)) (fun _ _ _ => y_ck87 rfl hh z1 hmn hp48 (by decide) (by decide) (by decide) (by decide) (by decide) (by decide) (by decide) (by decide) (by decide) (by decide) (by decide) (y_ck335n (by decide) (by decide) (by decide) (by decide) (by decide) (by decide) (br_t rfl ?_)))
  refine br_t (by decide) (br_t (by decide) (br_t (by decide) (br_f (by decide) (br_f (by decide) (?_)))))
  have LY := fun (post : SY → Prop) (K : wY_paint_122 post (nI 38) (nI t) 0 (nI h) (nI n) (nI a) 0 (-1) (nI (s + 1)) (nI c) 0 0 0 0 tk tv (zf dg 0 576 (fun e => if ZC 38 pc px py ss cl wD (e % 24) (e / 24) = true ∧ cp e ≠ 0 then gY else dg e)) sk sv vk vv hw fr og lf st la fm fc gr wi mn qx qy ss cl cp nx ny) => y_paint_a (op := 38) (by decide) (by decide) hP hmn hwi hgr K 576 0 rfl
  simp only [zf_z] at LY
  exact br_f (by decide) (br_f (by decide) ⟨577, LY _ (br_f (by decide) (nm_e ⟨1, br_f (by decide) (br_f (by decide) (y_p165 (by decide) hp))⟩))⟩)
theorem st_clip {t h n a c s pc : Nat} {PX : Int32 → SX → Prop} (hR : ZR t h n a c mA mB oX oY gY wD pC tk tv cb sk sv vk vv bp br bh bn bs bl px py pm cr sn sx sy sm sp hw fr og lf st la fm fc gr wi mn qx qy ss cl cp) (ha : a < t) (hk : tk a = 1) (hv : tv a = nI 39) (hpc : pC = nI pc) (hp48 : pc ≤ 48) (hE : ZE1 39 h sk pc = 0)
    (H : ∀ (e : Int32) (u' : SX) (v' : SY), ZStep a (s + 1) e u' v' → (∀ PY : SY → Prop, PY v' → wpY_execute PY (nI t, 0, nI h, nI n, nI a, 0, -1, nI (s + 1), nI c, nw, gn, bg, wd, tk, tv, dg, sk, sv, vk, vv, hw, fr, og, lf, st, la, fm, fc, gr, wi, mn, qx, qy, ss, cl, cp, nx, ny)) → PX e u') : wpX_execute PX (nI t, 0, nI a, nI s, -1, nI h, nI n, mA, mB, oX, oY, gY, wD, pC, nI c, tk, tv, cb, sk, sv, vk, vv, bp, br, bh, bn, bs, bl, px, py, pm, cr, sn, sx, sy, sm, sp, dg) (nI a) := by
  have hR' := hR
  obtain ⟨hT, hS, hV, hF, hPO, hG, hSV⟩ := hR
  have ht := hT.1
  have hh := hS.1
  have hmn := zg_mn hG hpc
  have hi : vp_in (nI a) 100 := vp_in_nI (by omega) (by omega)
  have e : (nI a).toNatClampNeg = a := zc_i (by omega)
  have ek : tk (nI a).toNatClampNeg = 1 := by rw [e]; exact hk
  have ev : tv (nI a).toNatClampNeg = nI 39 := by rw [e]; exact hv
  have hpn := po_next hPO ha (by rw [hk]; decide) (by rw [hk]; decide)
  obtain ⟨z1, z2, z3, z4⟩ := ze_0 hE
  have z1 : 0 ≤ h := z1
  have hP := zg_pt hG hpc hp48
  have hgr := hG.2.1
  have hwi := hG.2.2.1
  have hC := hG.2.2.2.2.2
  refine nm_r (nI_1 s) (nm_r (nI_1 a) ⟨hi, br_t ek ⟨hi, nm_r ev (x_oe0 (by decide) hh hp48 rfl hpc hE (br_t rfl (br_t (by decide) (br_f (by decide) (br_f (by decide) (br_f (by decide) (br_t (by decide) (br_f (by decide) (br_f (by decide) (br_f (by decide) (br_f (by decide) (br_f (by decide) (?_)))))))))))))⟩⟩)
  have LX := fun (post : SX → Prop) (K : post (nI t, 0, nI (a + 1), nI (s + 1), -1, nI h, nI n, mA, mB, oX, oY, gY, wD, pC, nI c, tk, tv, cb, sk, sv, vk, vv, bp, br, bh, bn, bs, bl, px, py, pm, zf cr 0 24 (fun j => cr j &&& zrow (fun i => ZC 39 pc px py ss cl wD i j) 24), sn, sx, sy, sm, sp, dg)) => x_paint_c (op := 39) (by decide) (by decide) hP hpc rfl K 24 0 rfl
  simp only [zf_z] at LX
  refine ⟨25, LX _ (x_153 (n := 0) (by decide) rfl z1 rfl (H 0 _ (nI t, 0, nI h, nI n, nI a + 1, 0, -1, nI (s + 1), nI c, 0, 0, 0, 0, tk, tv, dg, sk, sv, vk, vv, hw, fr, og, lf, st, la, fm, fc, gr, wi, mn, qx, qy, ss, cl, zf cp 0 576 (fun e => if ZC 39 pc px py ss cl wD (e % 24) (e / 24) = true then cp e else 0), nx, ny) (zs_ok ⟨hT, hS, hV, hF, hpn, zgs_clip hG (zcp_clip hC), zsv_up hSV zr_i zr_i zr_i zr_i zr_i zr_i zr_i zr_i zr_i (fun i hi => zf_hi (by omega))⟩ rfl (nI_1 a) rfl rfl rfl rfl rfl rfl) (fun PY hp => ?_)))⟩
  refine ⟨hi, nm_r ev ⟨hi, nm_r ek (br_f (by decide) (br_f (by decide) (br_f (by decide) (br_t rfl ?_))))⟩⟩
  unfold wY_execute_245 wpY_operate
  refine y_check (by decide) hh hp48 (zst_k hS) rfl hmn (fun z => absurd hE z) (fun _ z => absurd z (by decide)) (fun _ _ _ => y_ck87 rfl hh z1 hmn hp48 (by decide) (by decide) (by decide) (by decide) (by decide) (by decide) (by decide) (by decide) (by decide) (by decide) (by decide) (y_ck335n (by decide) (by decide) (by decide) (by decide) (by decide) (by decide) (br_t rfl ?_)))
  refine br_t (by decide) (br_t (by decide) (br_t (by decide) (br_f (by decide) (br_f (by decide) (?_)))))
  have LY := fun (post : SY → Prop) (K : wY_paint_122 post (nI 39) (nI t) 0 (nI h) (nI n) (nI a) 0 (-1) (nI (s + 1)) (nI c) 0 0 0 0 tk tv dg sk sv vk vv hw fr og lf st la fm fc gr wi mn qx qy ss cl (zf cp 0 576 (fun e => if ZC 39 pc px py ss cl wD (e % 24) (e / 24) = true then cp e else 0)) nx ny) => y_paint_c (op := 39) (by decide) (by decide) hP hmn hwi K 576 0 rfl
  simp only [zf_z] at LY
  exact br_f (by decide) (br_f (by decide) ⟨577, LY _ (br_t (by decide) ⟨1, br_f (by decide) (br_f (by decide) (y_p165 (by decide) hp))⟩)⟩)
theorem st_eoclip {t h n a c s pc : Nat} {PX : Int32 → SX → Prop} (hR : ZR t h n a c mA mB oX oY gY wD pC tk tv cb sk sv vk vv bp br bh bn bs bl px py pm cr sn sx sy sm sp hw fr og lf st la fm fc gr wi mn qx qy ss cl cp) (ha : a < t) (hk : tk a = 1) (hv : tv a = nI 40) (hpc : pC = nI pc) (hp48 : pc ≤ 48) (hE : ZE1 40 h sk pc = 0)
    (H : ∀ (e : Int32) (u' : SX) (v' : SY), ZStep a (s + 1) e u' v' → (∀ PY : SY → Prop, PY v' → wpY_execute PY (nI t, 0, nI h, nI n, nI a, 0, -1, nI (s + 1), nI c, nw, gn, bg, wd, tk, tv, dg, sk, sv, vk, vv, hw, fr, og, lf, st, la, fm, fc, gr, wi, mn, qx, qy, ss, cl, cp, nx, ny)) → PX e u') : wpX_execute PX (nI t, 0, nI a, nI s, -1, nI h, nI n, mA, mB, oX, oY, gY, wD, pC, nI c, tk, tv, cb, sk, sv, vk, vv, bp, br, bh, bn, bs, bl, px, py, pm, cr, sn, sx, sy, sm, sp, dg) (nI a) := by
  have hR' := hR
  obtain ⟨hT, hS, hV, hF, hPO, hG, hSV⟩ := hR
  have ht := hT.1
  have hh := hS.1
  have hmn := zg_mn hG hpc
  have hi : vp_in (nI a) 100 := vp_in_nI (by omega) (by omega)
  have e : (nI a).toNatClampNeg = a := zc_i (by omega)
  have ek : tk (nI a).toNatClampNeg = 1 := by rw [e]; exact hk
  have ev : tv (nI a).toNatClampNeg = nI 40 := by rw [e]; exact hv
  have hpn := po_next hPO ha (by rw [hk]; decide) (by rw [hk]; decide)
  obtain ⟨z1, z2, z3, z4⟩ := ze_0 hE
  have z1 : 0 ≤ h := z1
  have hP := zg_pt hG hpc hp48
  have hgr := hG.2.1
  have hwi := hG.2.2.1
  have hC := hG.2.2.2.2.2
  refine nm_r (nI_1 s) (nm_r (nI_1 a) ⟨hi, br_t ek ⟨hi, nm_r ev (x_oe0 (by decide) hh hp48 rfl hpc hE (br_t rfl (br_t (by decide) (br_f (by decide) (br_f (by decide) (br_f (by decide) (br_t (by decide) (br_f (by decide) (br_f (by decide) (br_f (by decide) (br_f (by decide) (br_f (by decide) (?_)))))))))))))⟩⟩)
  have LX := fun (post : SX → Prop) (K : post (nI t, 0, nI (a + 1), nI (s + 1), -1, nI h, nI n, mA, mB, oX, oY, gY, wD, pC, nI c, tk, tv, cb, sk, sv, vk, vv, bp, br, bh, bn, bs, bl, px, py, pm, zf cr 0 24 (fun j => cr j &&& zrow (fun i => ZC 40 pc px py ss cl wD i j) 24), sn, sx, sy, sm, sp, dg)) => x_paint_c (op := 40) (by decide) (by decide) hP hpc rfl K 24 0 rfl
  simp only [zf_z] at LX
  refine ⟨25, LX _ (x_153 (n := 0) (by decide) rfl z1 rfl (H 0 _ (nI t, 0, nI h, nI n, nI a + 1, 0, -1, nI (s + 1), nI c, 0, 0, 0, 0, tk, tv, dg, sk, sv, vk, vv, hw, fr, og, lf, st, la, fm, fc, gr, wi, mn, qx, qy, ss, cl, zf cp 0 576 (fun e => if ZC 40 pc px py ss cl wD (e % 24) (e / 24) = true then cp e else 0), nx, ny) (zs_ok ⟨hT, hS, hV, hF, hpn, zgs_clip hG (zcp_clip hC), zsv_up hSV zr_i zr_i zr_i zr_i zr_i zr_i zr_i zr_i zr_i (fun i hi => zf_hi (by omega))⟩ rfl (nI_1 a) rfl rfl rfl rfl rfl rfl) (fun PY hp => ?_)))⟩
  refine ⟨hi, nm_r ev ⟨hi, nm_r ek (br_f (by decide) (br_f (by decide) (br_f (by decide) (br_t rfl ?_))))⟩⟩
  unfold wY_execute_245 wpY_operate
  refine y_check (by decide) hh hp48 (zst_k hS) rfl hmn (fun z => absurd hE z) (fun _ z => absurd z (by decide)) (fun _ _ _ => y_ck87 rfl hh z1 hmn hp48 (by decide) (by decide) (by decide) (by decide) (by decide) (by decide) (by decide) (by decide) (by decide) (by decide) (by decide) (y_ck335n (by decide) (by decide) (by decide) (by decide) (by decide) (by decide) (br_t rfl ?_)))
  refine br_t (by decide) (br_t (by decide) (br_t (by decide) (br_f (by decide) (br_f (by decide) (?_)))))
  have LY := fun (post : SY → Prop) (K : wY_paint_122 post (nI 40) (nI t) 0 (nI h) (nI n) (nI a) 0 (-1) (nI (s + 1)) (nI c) 0 0 0 0 tk tv dg sk sv vk vv hw fr og lf st la fm fc gr wi mn qx qy ss cl (zf cp 0 576 (fun e => if ZC 40 pc px py ss cl wD (e % 24) (e / 24) = true then cp e else 0)) nx ny) => y_paint_c (op := 40) (by decide) (by decide) hP hmn hwi K 576 0 rfl
  simp only [zf_z] at LY
  exact br_f (by decide) (br_f (by decide) ⟨577, LY _ (br_t (by decide) ⟨1, br_f (by decide) (br_f (by decide) (y_p165 (by decide) hp))⟩)⟩)
end
end
section
section
variable {tc ob ps su ep sd bc mA mB oX oY gY wD pC sC yt yo yh yi ya ye yp ys yc nw gn bg wd : Int32} {tk tv cb sk sv vk vv bp br bh bn bs bl px py pm cr sn sx sy sm sp dg hw fr og lf st la fm fc gr wi mn qx qy ss cl cp nx ny : Nat → Int32}
theorem ze_le (op h : Nat) (sk : Nat → Int32) (pc : Nat) : ZE1 op h sk pc ≤ 6 := by
  unfold ZE1
  split
  · omega
  · split
    · omega
    · split
      · omega
      · split <;> omega
theorem st_op {t h n a c s op : Nat} {PX : Int32 → SX → Prop} (hR : ZR t h n a c mA mB oX oY gY wD pC tk tv cb sk sv vk vv bp br bh bn bs bl px py pm cr sn sx sy sm sp hw fr og lf st la fm fc gr wi mn qx qy ss cl cp) (ha : a < t) (hk : tk a = 1) (hop : op < 45) (hv : tv a = nI op)
    (H : ∀ (e : Int32) (u' : SX) (v' : SY), ZStep a (s + 1) e u' v' → (∀ PY : SY → Prop, PY v' → wpY_execute PY (nI t, 0, nI h, nI n, nI a, 0, -1, nI (s + 1), nI c, nw, gn, bg, wd, tk, tv, dg, sk, sv, vk, vv, hw, fr, og, lf, st, la, fm, fc, gr, wi, mn, qx, qy, ss, cl, cp, nx, ny)) → PX e u') : wpX_execute PX (nI t, 0, nI a, nI s, -1, nI h, nI n, mA, mB, oX, oY, gY, wD, pC, nI c, tk, tv, cb, sk, sv, vk, vv, bp, br, bh, bn, bs, bl, px, py, pm, cr, sn, sx, sy, sm, sp, dg) (nI a) := by
  obtain ⟨pc, hpc, hPT⟩ := hR.2.2.2.2.2.1.2.2.2.2.1
  have hp48 := hPT.1
  by_cases hE : ZE1 op h sk pc = 0
  · have h45 : op = 0 ∨ op = 1 ∨ op = 2 ∨ op = 3 ∨ op = 4 ∨ op = 5 ∨ op = 6 ∨ op = 7 ∨ op = 8 ∨ op = 9 ∨ op = 10 ∨ op = 11 ∨ op = 12 ∨ op = 13 ∨ op = 14 ∨ op = 15 ∨ op = 16 ∨ op = 17 ∨ op = 18 ∨ op = 19 ∨ op = 20 ∨ op = 21 ∨ op = 22 ∨ op = 23 ∨ op = 24 ∨ op = 25 ∨ op = 26 ∨ op = 27 ∨ op = 28 ∨ op = 29 ∨ op = 30 ∨ op = 31 ∨ op = 32 ∨ op = 33 ∨ op = 34 ∨ op = 35 ∨ op = 36 ∨ op = 37 ∨ op = 38 ∨ op = 39 ∨ op = 40 ∨ op = 41 ∨ op = 42 ∨ op = 43 ∨ op = 44 := by omega
    rcases h45 with rfl | rfl | rfl | rfl | rfl | rfl | rfl | rfl | rfl | rfl | rfl | rfl | rfl | rfl | rfl | rfl | rfl | rfl | rfl | rfl | rfl | rfl | rfl | rfl | rfl | rfl | rfl | rfl | rfl | rfl | rfl | rfl | rfl | rfl | rfl | rfl | rfl | rfl | rfl | rfl | rfl | rfl | rfl | rfl | rfl
    · exact st_add hR ha hk hv hpc hp48 hE H
    · exact st_sub hR ha hk hv hpc hp48 hE H
    · exact st_mul hR ha hk hv hpc hp48 hE H
    · exact st_div hR ha hk hv hpc hp48 hE H
    · exact st_mod hR ha hk hv hpc hp48 hE H
    · exact st_neg hR ha hk hv hpc hp48 hE H
    · exact st_lt hR ha hk hv hpc hp48 hE H
    · exact st_eq hR ha hk hv hpc hp48 hE H
    · exact st_pop hR ha hk hv hpc hp48 hE H
    · exact st_dup hR ha hk hv hpc hp48 hE H
    · exact st_exch hR ha hk hv hpc hp48 hE H
    · exact st_index hR ha hk hv hpc hp48 hE H
    · exact st_count hR ha hk hv hpc hp48 hE H
    · exact st_clear hR ha hk hv hpc hp48 hE H
    · exact st_exec hR ha hk hv hpc hp48 hE H
    · exact st_if hR ha hk hv hpc hp48 hE H
    · exact st_ifelse hR ha hk hv hpc hp48 hE H
    · exact st_repeat hR ha hk hv hpc hp48 hE H
    · exact st_for hR ha hk hv hpc hp48 hE H
    · exact st_loop hR ha hk hv hpc hp48 hE H
    · exact st_exit hR ha hk hv hpc hp48 hE H
    · exact st_gsave hR ha hk hv hpc hp48 hE H
    · exact st_grestore hR ha hk hv hpc hp48 hE H
    · exact st_translate hR ha hk hv hpc hp48 hE H
    · exact st_scale hR ha hk hv hpc hp48 hE H
    · exact st_turn hR ha hk hv hpc hp48 hE H
    · exact st_gray hR ha hk hv hpc hp48 hE H
    · exact st_width hR ha hk hv hpc hp48 hE H
    · exact st_newpath hR ha hk hv hpc hp48 hE H
    · exact st_moveto hR ha hk hv hpc hp48 hE H
    · exact st_lineto hR ha hk hv hpc hp48 hE H
    · exact st_rmoveto hR ha hk hv hpc hp48 hE H
    · exact st_rlineto hR ha hk hv hpc hp48 hE H
    · exact st_curveto hR ha hk hv hpc hp48 hE H
    · exact st_close hR ha hk hv hpc hp48 hE H
    · exact st_point hR ha hk hv hpc hp48 hE H
    · exact st_fill hR ha hk hv hpc hp48 hE H
    · exact st_eofill hR ha hk hv hpc hp48 hE H
    · exact st_stroke hR ha hk hv hpc hp48 hE H
    · exact st_clip hR ha hk hv hpc hp48 hE H
    · exact st_eoclip hR ha hk hv hpc hp48 hE H
    · exact st_initclip hR ha hk hv hpc hp48 hE H
    · exact st_wipe hR ha hk hv hpc hp48 hE H
    · exact st_dot hR ha hk hv hpc hp48 hE H
    · exact st_box hR ha hk hv hpc hp48 hE H
  · have hR' := hR
    obtain ⟨hT, hS, hV, hF, hPO, hG, hSV⟩ := hR
    have ht := hT.1
    have hh := hS.1
    have hmn := zg_mn hG hpc
    have hi : vp_in (nI a) 100 := vp_in_nI (by omega) (by omega)
    have e : (nI a).toNatClampNeg = a := zc_i (by omega)
    have ek : tk (nI a).toNatClampNeg = 1 := by rw [e]; exact hk
    have ev : tv (nI a).toNatClampNeg = nI op := by rw [e]; exact hv
    have hle := ze_le op h sk pc
    have hne : nI (ZE1 op h sk pc) ≠ 0 := nI_ne0 (by omega) (by omega)
    refine nm_r (nI_1 s) (nm_r (nI_1 a) ⟨hi, br_t ek ⟨hi, nm_r ev (x_oe hop hh hp48 rfl hpc (br_f hne (H _ _ (nI t, 0, nI h, nI n, nI a, nI (ZE1 op h sk pc), -1, nI (s + 1), nI c, nw, gn, bg, wd, tk, tv, dg, sk, sv, vk, vv, hw, fr, og, lf, st, la, fm, fc, gr, wi, mn, qx, qy, ss, cl, cp, nx, ny) (zs_er hR' hne) (fun PY hp => ?_))))⟩⟩)
    refine ⟨hi, nm_r ev ⟨hi, nm_r ek (br_f (by decide) (br_f (by decide) (br_f (by decide) (br_t rfl ?_))))⟩⟩
    unfold wY_execute_245 wpY_operate
    exact y_check hop hh hp48 (zst_k hS) rfl hmn (fun _ => br_f hne hp) (fun z => absurd z hE) (fun z => absurd z hE)
theorem st_all {t h n a c s : Nat} {PX : Int32 → SX → Prop} (hR : ZR t h n a c mA mB oX oY gY wD pC tk tv cb sk sv vk vv bp br bh bn bs bl px py pm cr sn sx sy sm sp hw fr og lf st la fm fc gr wi mn qx qy ss cl cp) (ha : a < t)
    (H : ∀ (e : Int32) (u' : SX) (v' : SY), ZStep a (s + 1) e u' v' → (∀ PY : SY → Prop, PY v' → wpY_execute PY (nI t, 0, nI h, nI n, nI a, 0, -1, nI (s + 1), nI c, nw, gn, bg, wd, tk, tv, dg, sk, sv, vk, vv, hw, fr, og, lf, st, la, fm, fc, gr, wi, mn, qx, qy, ss, cl, cp, nx, ny)) → PX e u') : wpX_execute PX (nI t, 0, nI a, nI s, -1, nI h, nI n, mA, mB, oX, oY, gY, wD, pC, nI c, tk, tv, cb, sk, sv, vk, vv, bp, br, bh, bn, bs, bl, px, py, pm, cr, sn, sx, sy, sm, sp, dg) (nI a) := by
  rcases hR.1.2.1 a ha with z | ⟨z, op, hop, hv⟩ | z | z | ⟨z, _⟩ | ⟨z, _⟩
  · exact st_num hR ha z H
  · exact st_op hR ha z hop hv H
  · exact st_beg hR ha z H
  · exact st_end hR ha z H
  · exact st_load hR ha z H
  · exact st_store hR ha z H
end
def ZXR (post : Int32 → SX → Prop) (q : Nat) (e i : Int32) (u : SX) : Prop := match u with | (tc, ob, ps, su, ep, sd, bc, mA, mB, oX, oY, gY, wD, pC, sC, tk, tv, cb, sk, sv, vk, vv, bp, br, bh, bn, bs, bl, px, py, pm, cr, sn, sx, sy, sm, sp, dg) => wX_run_17 post q e i tc ob ps su ep sd bc mA mB oX oY gY wD pC sC tk tv cb sk sv vk vv bp br bh bn bs bl px py pm cr sn sx sy sm sp dg
def ZYR (PY : Int32 → SY → Prop) (q : Nat) (v : SY) : Prop := match v with | (yt, yo, yh, yi, ya, ye, yp, ys, yc, nw, gn, bg, wd, tk, tv, dg, sk, sv, vk, vv, hw, fr, og, lf, st, la, fm, fc, gr, wi, mn, qx, qy, ss, cl, cp, nx, ny) => wY_run_13 PY q yt yo yh yi ya ye yp ys yc nw gn bg wd tk tv dg sk sv vk vv hw fr og lf st la fm fc gr wi mn qx qy ss cl cp nx ny
theorem zr_zi {s : Nat} {u : SX} {v : SY} (h : ZRun s u v) : ZI u v := by
  obtain ⟨tc, ob, ps, su, ep, sd, bc, mA, mB, oX, oY, gY, wD, pC, sC, tk, tv, cb, sk, sv, vk, vv, bp, br, bh, bn, bs, bl, px, py, pm, cr, sn, sx, sy, sm, sp, dg⟩ := u
  obtain ⟨yt, yo, yh, yi, ya, ye, yp, ys, yc, nw, gn, bg, wd, tk', tv', dg', sk', sv', vk', vv', hw, fr, og, lf, st, la, fm, fc, gr, wi, mn, qx, qy, ss, cl, cp, nx, ny⟩ := v
  obtain ⟨t, h, n, a, c, ⟨e1, e2, e3, e4, e5, e6, e7, e8⟩, ⟨f1, f2, f3, f4, f5, f6, f7, f8, f9⟩, ⟨g1, g2, g3, g4, g5, g6, g7⟩, hT, hS, hV, hF, hPO, ⟨q6, q7, q8, q9, ⟨pc, q10, q11⟩, q12⟩, hSV⟩ := h
  exact ⟨⟨t, 0, h, ⟨e1, e2, e6, hS.1⟩, ⟨f1, f2, f3, f8.trans e4.symm⟩, ⟨g1, g2, g3, g4, g5, g6, g7⟩, hT, ⟨pc, q10, q9.trans q10, q11⟩, q12⟩, f7.trans e5.symm⟩
theorem run_l : ∀ (d i : Nat) (u : SX) (v : SY), i + d = 600 → ZRun i u v → ∀ (vB : SY) (_ : ∀ PY : Int32 → SY → Prop, (∃ q, ZYR PY q v) → ∃ q, ZYR PY q vB) (post : Int32 → SX → Prop)
    (_ : ∀ (r : Int32) (u' : SX) (v' : SY), ZI u' v' → (∀ PY : Int32 → SY → Prop, PY r v' → ∃ q, ZYR PY q vB) → post r u'), ZXR post (d + 2) 0 (nI i) u := by
  intro d
  induction d with
  | zero =>
    intro i u v hi hR vB hY post hpost
    have hz := zr_zi hR
    have hi6 : i = 600 := by omega
    subst hi6
    obtain ⟨tc, ob, ps, su, ep, sd, bc, mA, mB, oX, oY, gY, wD, pC, sC, tk, tv, cb, sk, sv, vk, vv, bp, br, bh, bn, bs, bl, px, py, pm, cr, sn, sx, sy, sm, sp, dg⟩ := u
    obtain ⟨yt, yo, yh, yi, ya, ye, yp, ys, yc, nw, gn, bg, wd, tk', tv', dg', sk', sv', vk', vv', hw, fr, og, lf, st, la, fm, fc, gr, wi, mn, qx, qy, ss, cl, cp, nx, ny⟩ := v
    obtain ⟨t, h, n, a, c, ⟨rfl, rfl, rfl, rfl, rfl, rfl, rfl, rfl⟩, ⟨rfl, rfl, rfl, rfl, rfl, rfl, rfl, rfl, rfl⟩, ⟨rfl, rfl, rfl, rfl, rfl, rfl, rfl⟩, hZ⟩ := hR
    have ht := hZ.1.1
    have ha := po_le hZ.2.2.2.2.1
    refine qs_f 600 600 (by omega) (br_t rfl (pk_le t a (fun h1 => ?_) (fun h1 => ?_)))
    · exact hpost 0 _ _ hz (fun PY k => hY PY ⟨1, ql_t t a h1 k⟩)
    · refine ql_t 600 600 (by omega) (br_f (by decide) (nm_r (nI_1 600) (qs_t 600 (600 + 1) (by omega) ?_)))
      refine hpost 11 _ (nI t, 0, nI h, nI n, nI a, 11, nI a, nI 600, nI c, nw, gn, bg, wd, tk', tv', dg', sk', sv', vk', vv', hw, fr, og, lf, st, la, fm, fc, gr, wi, mn, qx, qy, ss, cl, cp, nx, ny) ⟨?_, rfl⟩ (fun PY k => hY PY ⟨2, ql_f t a h1 (br_t rfl (br_t rfl (br_f (by decide) (br_c (fun _ => k) (fun _ => br_f (by decide) k)))))⟩)
      exact hz.1
  | succ d ih =>
    intro i u v hi hR vB hY post hpost
    have hz := zr_zi hR
    obtain ⟨tc, ob, ps, su, ep, sd, bc, mA, mB, oX, oY, gY, wD, pC, sC, tk, tv, cb, sk, sv, vk, vv, bp, br, bh, bn, bs, bl, px, py, pm, cr, sn, sx, sy, sm, sp, dg⟩ := u
    obtain ⟨yt, yo, yh, yi, ya, ye, yp, ys, yc, nw, gn, bg, wd, tk', tv', dg', sk', sv', vk', vv', hw, fr, og, lf, st, la, fm, fc, gr, wi, mn, qx, qy, ss, cl, cp, nx, ny⟩ := v
    obtain ⟨t, h, n, a, c, ⟨rfl, rfl, rfl, rfl, rfl, rfl, rfl, rfl⟩, ⟨rfl, rfl, rfl, rfl, rfl, rfl, rfl, rfl, rfl⟩, ⟨rfl, rfl, rfl, rfl, rfl, rfl, rfl⟩, hZ⟩ := hR
    have ht := hZ.1.1
    have ha := po_le hZ.2.2.2.2.1
    refine qs_f 600 i (by omega) (br_t rfl (pk_le t a (fun h1 => ?_) (fun h1 => ?_)))
    · exact hpost 0 _ _ hz (fun PY k => hY PY ⟨1, ql_t t a h1 k⟩)
    · refine ql_f 600 i (by omega) (st_all (nw := nw) (gn := gn) (bg := bg) (wd := wd) (nx := nx) (ny := ny) hZ h1 (fun e u' v' hst hex => ?_))
      have hY2 : ∀ (PY : Int32 → SY → Prop) (q : Nat), (match v' with | (yt₁, yo₁, yh₁, yi₁, ya₁, ye₁, yp₁, ys₁, yc₁, nw₁, gn₁, bg₁, wd₁, tk₁, tv₁, dg₁, sk₁, sv₁, vk₁, vv₁, hw₁, fr₁, og₁, lf₁, st₁, la₁, fm₁, fc₁, gr₁, wi₁, mn₁, qx₁, qy₁, ss₁, cl₁, cp₁, nx₁, ny₁) => wY_run_64 PY (wY_run_13 PY q) yt₁ yo₁ yh₁ yi₁ ya₁ ye₁ yp₁ ys₁ yc₁ nw₁ gn₁ bg₁ wd₁ tk₁ tv₁ dg₁ sk₁ sv₁ vk₁ vv₁ hw₁ fr₁ og₁ lf₁ st₁ la₁ fm₁ fc₁ gr₁ wi₁ mn₁ qx₁ qy₁ ss₁ cl₁ cp₁ nx₁ ny₁) → ∃ q, ZYR PY q vB := by
        intro PY q k
        refine hY PY ⟨q + 1, ql_f t a h1 (br_t rfl (qe_f i 600 (by omega) (nm_r (nI_1 i) (hex _ ?_))))⟩
        obtain ⟨yt₁, yo₁, yh₁, yi₁, ya₁, ye₁, yp₁, ys₁, yc₁, nw₁, gn₁, bg₁, wd₁, tk₁, tv₁, dg₁, sk₁, sv₁, vk₁, vv₁, hw₁, fr₁, og₁, lf₁, st₁, la₁, fm₁, fc₁, gr₁, wi₁, mn₁, qx₁, qy₁, ss₁, cl₁, cp₁, nx₁, ny₁⟩ := v'
        exact k
      rcases hst with ⟨rfl, hR2⟩ | ⟨he, hI, hE⟩
      · have nxt := ih (i + 1) u' v' (by omega) hR2 vB (fun PY hq => by
          obtain ⟨q, hq⟩ := hq
          refine hY2 PY q ?_
          obtain ⟨tc₁, ob₁, ps₁, su₁, ep₁, sd₁, bc₁, mA₁, mB₁, oX₁, oY₁, gY₁, wD₁, pC₁, sC₁, tk₁, tv₁, cb₁, sk₁, sv₁, vk₁, vv₁, bp₁, br₁, bh₁, bn₁, bs₁, bl₁, px₁, py₁, pm₁, cr₁, sn₁, sx₁, sy₁, sm₁, sp₁, dg₁⟩ := u'
          obtain ⟨yt₁, yo₁, yh₁, yi₁, ya₁, ye₁, yp₁, ys₁, yc₁, nw₁, gn₁, bg₁, wd₁, tk₁, tv₁, dg₁, sk₁, sv₁, vk₁, vv₁, hw₁, fr₁, og₁, lf₁, st₁, la₁, fm₁, fc₁, gr₁, wi₁, mn₁, qx₁, qy₁, ss₁, cl₁, cp₁, nx₁, ny₁⟩ := v'
          obtain ⟨t, h, n, a, c, _, ⟨f1, f2, f3, f4, f5, f6, _⟩, _⟩ := hR2
          exact br_t f6 hq) post hpost
        obtain ⟨tc₁, ob₁, ps₁, su₁, ep₁, sd₁, bc₁, mA₁, mB₁, oX₁, oY₁, gY₁, wD₁, pC₁, sC₁, tk₁, tv₁, cb₁, sk₁, sv₁, vk₁, vv₁, bp₁, br₁, bh₁, bn₁, bs₁, bl₁, px₁, py₁, pm₁, cr₁, sn₁, sx₁, sy₁, sm₁, sp₁, dg₁⟩ := u'
        exact br_t rfl (nm_r (nI_1 i) nxt)
      · obtain ⟨tc₁, ob₁, ps₁, su₁, ep₁, sd₁, bc₁, mA₁, mB₁, oX₁, oY₁, gY₁, wD₁, pC₁, sC₁, tk₁, tv₁, cb₁, sk₁, sv₁, vk₁, vv₁, bp₁, br₁, bh₁, bn₁, bs₁, bl₁, px₁, py₁, pm₁, cr₁, sn₁, sx₁, sy₁, sm₁, sp₁, dg₁⟩ := u'
        obtain ⟨yt₁, yo₁, yh₁, yi₁, ya₁, ye₁, yp₁, ys₁, yc₁, nw₁, gn₁, bg₁, wd₁, tk₁, tv₁, dg₁, sk₁, sv₁, vk₁, vv₁, hw₁, fr₁, og₁, lf₁, st₁, la₁, fm₁, fc₁, gr₁, wi₁, mn₁, qx₁, qy₁, ss₁, cl₁, cp₁, nx₁, ny₁⟩ := v'
        obtain ⟨g1, g2, g3, tt, g4⟩ := hE
        refine br_f he (nm_r (nI_1 i) (qs_f 600 (i + 1) (by omega) (br_f he ?_)))
        refine hpost e _ (yt₁, yo₁, yh₁, yi₁, ya₁, ye₁, nI a, ys₁, yc₁, nw₁, gn₁, bg₁, wd₁, tk₁, tv₁, dg₁, sk₁, sv₁, vk₁, vv₁, hw₁, fr₁, og₁, lf₁, st₁, la₁, fm₁, fc₁, gr₁, wi₁, mn₁, qx₁, qy₁, ss₁, cl₁, cp₁, nx₁, ny₁) ⟨hI, rfl⟩ (fun PY k => hY2 PY 1 ?_)
        subst g1 g2
        exact br_f he (br_c (fun _ => k) (fun _ => br_f he k))
theorem i_vc_run {k : Nat} {u : SX} {v : SY} (I : i_Rel k u v) (hk : k + 3 ≤ 1536) : wpX_run (fun r u' => wpY_run (fun r' v' => r' = r ∧ i_Rel (k + 3) u' v') v) u := by
  have I2 := I
  obtain ⟨tc, ob, ps, su, ep, sd, bc, mA, mB, oX, oY, gY, wD, pC, sC, tk, tv, cb, sk, sv, vk, vv, bp, br, bh, bn, bs, bl, px, py, pm, cr, sn, sx, sy, sm, sp, dg⟩ := u
  obtain ⟨yt, yo, yh, yi, ya, ye, yp, ys, yc, nw, gn, bg, wd, tk', tv', dg', sk', sv', vk', vv', hw, fr, og, lf, st, la, fm, fc, gr, wi, mn, qx, qy, ss, cl, cp, nx, ny⟩ := v
  obtain ⟨⟨t, o, h, ⟨rfl, rfl, rfl, h24⟩, ⟨rfl, rfl, rfl, rfl⟩, ⟨rfl, rfl, rfl, rfl, rfl, rfl, rfl⟩, hT, hP, hC⟩, hep⟩ := I
  have ho := tk_ob hT
  refine pk_le o 0 (fun h1 => ?_) (fun h1 => ql_f o 0 h1 ⟨rfl, I2⟩)
  have ho0 : o = 0 := by omega
  subst ho0
  have hR : ZRun 0 (nI t, nI 0, 0, 0, -1, 0, 0, 1, 0, 0, 0, 0, 2, 0, 0, tk', tv', cb, sk', sv', zf vk' 0 8 (fun _ => 0), zf vv' 0 8 (fun _ => 0), bp, br, bh, bn, bs, bl, px, py, pm, zf cr 0 24 (fun _ => 16777215), sn, sx, sy, sm, sp, dg') (nI t, 0, 0, 0, 0, 0, -1, 0, 0, nw, gn, bg, wd, tk', tv', dg', sk', sv', zf vk' 0 8 (fun _ => 0), zf vv' 0 8 (fun _ => 0), hw, fr, og, lf, st, la, zf fm 0 6 (fun k => if k = 0 ∨ k = 4 then 1 else 0), upd fc 0 1, upd gr 0 0, upd wi 0 2, upd mn 0 0, qx, qy, ss, cl, zf cp 0 576 (fun _ => 1), nx, ny) := by
    refine ⟨t, 0, 0, 0, 0, ⟨rfl, rfl, rfl, rfl, rfl, rfl, rfl, rfl⟩, ⟨rfl, rfl, rfl, rfl, rfl, rfl, rfl, rfl, rfl⟩, ⟨rfl, rfl, rfl, rfl, rfl, rfl, rfl⟩, hT, ⟨by omega, fun k hk => by omega⟩, fun k hk => Or.inl (zf_in (by omega) hk), ⟨by omega, fun k hk => by omega⟩, ⟨by omega, rfl⟩, ⟨⟨?_, ?_, ?_, ?_, ?_, ?_, ⟨by decide, by decide⟩, ⟨by decide, by decide⟩, 1, by omega, by omega, rfl, Or.inl ⟨rfl, rfl⟩⟩, rfl, rfl, rfl, ⟨0, rfl, zpt_0⟩, zcp_full⟩, by omega, fun k hk => by omega⟩
    · rw [zf_in (by omega) (by omega)]; rfl
    · rw [zf_in (by omega) (by omega)]; rfl
    · rw [zf_in (by omega) (by omega)]; rfl
    · rw [zf_in (by omega) (by omega)]; rfl
    · rw [zf_in (by omega) (by omega)]; rfl
    · rw [zf_in (by omega) (by omega)]; rfl
  have L : ∀ post : Int32 → SX → Prop, (∀ (r : Int32) (u' : SX) (v' : SY), ZI u' v' → (∀ PY : Int32 → SY → Prop, PY r v' → ∃ q, ZYR PY q (nI t, 0, 0, 0, 0, 0, -1, 0, 0, nw, gn, bg, wd, tk', tv', dg', sk', sv', zf vk' 0 8 (fun _ => 0), zf vv' 0 8 (fun _ => 0), hw, fr, og, lf, st, la, zf fm 0 6 (fun k => if k = 0 ∨ k = 4 then 1 else 0), upd fc 0 1, upd gr 0 0, upd wi 0 2, upd mn 0 0, qx, qy, ss, cl, zf cp 0 576 (fun _ => 1), nx, ny)) → post r u') → ZXR post (600 + 2) 0 (nI 0) (nI t, nI 0, 0, 0, -1, 0, 0, 1, 0, 0, 0, 0, 2, 0, 0, tk', tv', cb, sk', sv', zf vk' 0 8 (fun _ => 0), zf vv' 0 8 (fun _ => 0), bp, br, bh, bn, bs, bl, px, py, pm, zf cr 0 24 (fun _ => 16777215), sn, sx, sy, sm, sp, dg') := fun post hp => run_l 600 0 _ _ rfl hR _ (fun PY hq => hq) post hp
  obtain ⟨N, hN⟩ : ∃ N, N = 600 + 2 := ⟨_, rfl⟩
  rw [← hN] at L
  refine x_beginRun ⟨N, L _ (fun r u' v' hz hq => ?_)⟩
  refine ql_t 0 0 (by omega) (y_begin ?_)
  exact hq _ ⟨rfl, hz⟩
end
