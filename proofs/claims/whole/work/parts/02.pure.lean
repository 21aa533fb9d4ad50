/-! ===== braces: levels ===== -/
def zl (tk : Nat → Int32) : Nat → Int
  | 0 => 0
  | n + 1 => zl tk n + (if tk n = 2 then 1 else if tk n = 3 then -1 else 0)
theorem zl_2 {tk : Nat → Int32} {n : Nat} (h : tk n = 2) : zl tk (n + 1) = zl tk n + 1 := by
  show zl tk n + _ = _
  rw [if_pos h]
theorem zl_3 {tk : Nat → Int32} {n : Nat} (h : tk n = 3) : zl tk (n + 1) = zl tk n - 1 := by
  show zl tk n + _ = _
  rw [if_neg (by rw [h]; decide), if_pos h]
  omega
theorem zl_o {tk : Nat → Int32} {n : Nat} (h : tk n ≠ 2) (h3 : tk n ≠ 3) : zl tk (n + 1) = zl tk n := by
  show zl tk n + _ = _
  rw [if_neg h, if_neg h3]
  omega
theorem zl_up {tk : Nat → Int32} {c : Nat} {x : Int32} : ∀ n, n ≤ c → zl (upd tk c x) n = zl tk n := by
  intro n
  induction n with
  | zero => intro _; rfl
  | succ n ih =>
    intro h
    show zl (upd tk c x) n + _ = zl tk n + _
    rw [ih (by omega), pk_un (by omega)]
/-- the '{' at p is closed by the '}' at c -/
def Zcl (tc : Nat) (tk cb : Nat → Int32) (p c : Nat) : Prop :=
  cb p = nI c ∧ p < c ∧ c < tc ∧ tk c = 3 ∧ zl tk (c + 1) = zl tk p ∧ ∀ q, p < q → q ≤ c → zl tk p < zl tk q
/-- the '{' at p isn't closed yet -/
def Zop (tc : Nat) (tk cb : Nat → Int32) (p : Nat) : Prop :=
  cb p = -1 ∧ ∀ q, p < q → q ≤ tc → zl tk p < zl tk q
/-- one token as the document lets it in -/
def Ztk (k v : Int32) : Prop :=
  k = 0 ∨ (k = 1 ∧ ∃ n : Nat, n < 45 ∧ v = nI n) ∨ k = 2 ∨ k = 3 ∨ (k = 4 ∧ ∃ n : Nat, n < 8 ∧ v = nI n) ∨ (k = 5 ∧ ∃ n : Nat, n < 8 ∧ v = nI n)
def ZTK (tc ob : Nat) (tk tv cb : Nat → Int32) : Prop :=
  tc ≤ 100 ∧ (∀ k, k < tc → Ztk (tk k) (tv k)) ∧ zl tk tc = (ob : Int) ∧ (∀ q, q ≤ tc → 0 ≤ zl tk q) ∧
  (∀ p, p < tc → tk p = 2 → Zop tc tk cb p ∨ ∃ c, Zcl tc tk cb p c)
theorem tk_0 (tk tv cb : Nat → Int32) : ZTK 0 0 tk tv cb := by
  refine ⟨by omega, fun k h => by omega, rfl, fun q h => ?_, fun p h => by omega⟩
  have : q = 0 := by omega
  subst this
  exact Int.le_refl _
theorem tk_ob {tc ob : Nat} {tk tv cb : Nat → Int32} (h : ZTK tc ob tk tv cb) : ob ≤ 100 := by
  have : ∀ n, zl tk n ≤ n := by
    intro n
    induction n with
    | zero => exact Int.le_refl _
    | succ n ih =>
      have : zl tk (n + 1) ≤ zl tk n + 1 := by
        show zl tk n + _ ≤ _
        split
        · omega
        · split <;> omega
      omega
  have h1 := this tc
  have h2 := h.2.2.1
  have h3 := h.1
  omega
/-- no unclosed '{' from a on: the level doesn't rise -/
theorem zl_no {tc : Nat} {tk cb : Nat → Int32} (H : ∀ p, p < tc → tk p = 2 → Zop tc tk cb p ∨ ∃ c, Zcl tc tk cb p c) :
    ∀ d a, a + d = tc → (∀ p, a ≤ p → p < tc → tk p = 2 → ¬ cb p < 0) → zl tk tc ≤ zl tk a := by
  intro d
  induction d using Nat.strongRecOn with
  | ind d ih =>
    intro a ha ho
    by_cases h0 : d = 0
    · subst h0
      have : a = tc := by omega
      rw [this]
      exact Int.le_refl _
    · by_cases h2 : tk a = 2
      · rcases H a (by omega) h2 with hO | ⟨c, hc⟩
        · exact absurd (by rw [hO.1]; decide) (ho a (by omega) (by omega) h2)
        · have := ih (tc - (c + 1)) (by have := hc.2.1; have := hc.2.2.1; omega) (c + 1) (by have := hc.2.2.1; omega) (fun p h1 h3 h4 => ho p (by have := hc.2.1; omega) h3 h4)
          rw [hc.2.2.2.2.1] at this
          exact this
      · have h1 := ih (d - 1) (by omega) (a + 1) (by omega) (fun p h1 h3 h4 => ho p (by omega) h3 h4)
        by_cases h3 : tk a = 3
        · have := zl_3 h3
          omega
        · have := zl_o h2 h3
          omega
theorem zc_neg {c : Nat} (h : c < 1000) : ¬ nI c < 0 := nI_pos (by omega)
/-- a token that is no brace -/
theorem tk_add {tc ob : Nat} {tk tv cb : Nat → Int32} {k v : Int32} (h : ZTK tc ob tk tv cb) (hc : tc < 100) (hk : Ztk k v) (h2 : k ≠ 2) (h3 : k ≠ 3) :
    ZTK (tc + 1) ob (upd tk tc k) (upd tv tc v) (upd cb tc (-1)) := by
  obtain ⟨a, b, c, d, e⟩ := h
  have hl : zl (upd tk tc k) (tc + 1) = zl tk tc := by
    rw [zl_o (by rw [pk_us]; exact h2) (by rw [pk_us]; exact h3), zl_up _ (Nat.le_refl _)]
  refine ⟨by omega, fun j hj => ?_, by rw [hl, c], fun q hq => ?_, fun p hp h => ?_⟩
  · by_cases hj2 : j = tc
    · subst hj2; rw [pk_us, pk_us]; exact hk
    · rw [pk_un hj2, pk_un hj2]; exact b j (by omega)
  · by_cases hq2 : q = tc + 1
    · subst hq2; rw [hl]; exact d tc (Nat.le_refl _)
    · rw [zl_up q (by omega)]; exact d q (by omega)
  · by_cases hp2 : p = tc
    · subst hp2; rw [pk_us] at h; exact absurd h h2
    · rw [pk_un hp2] at h
      rcases e p (by omega) h with hO | ⟨c', hc'⟩
      · left
        refine ⟨by rw [pk_un hp2]; exact hO.1, fun q h1 h4 => ?_⟩
        rw [zl_up p (by omega)]
        by_cases hq2 : q = tc + 1
        · subst hq2; rw [hl]; exact hO.2 tc (by omega) (Nat.le_refl _)
        · rw [zl_up q (by omega)]; exact hO.2 q h1 (by omega)
      · right
        obtain ⟨x1, x2, x3, x4, x5, x6⟩ := hc'
        refine ⟨c', by rw [pk_un hp2]; exact x1, x2, by omega, by rw [pk_un (by omega)]; exact x4, ?_, fun q h1 h4 => ?_⟩
        · rw [zl_up _ (by omega), zl_up _ (by omega)]; exact x5
        · rw [zl_up _ (by omega), zl_up _ (by omega)]; exact x6 q h1 h4
theorem tk_beg {tc ob : Nat} {tk tv cb : Nat → Int32} {v : Int32} (h : ZTK tc ob tk tv cb) (hc : tc < 100) :
    ZTK (tc + 1) (ob + 1) (upd tk tc 2) (upd tv tc v) (upd cb tc (-1)) := by
  obtain ⟨a, b, c, d, e⟩ := h
  have hl : zl (upd tk tc 2) (tc + 1) = zl tk tc + 1 := by
    rw [zl_2 pk_us, zl_up _ (Nat.le_refl _)]
  refine ⟨by omega, fun j hj => ?_, by rw [hl, c]; omega, fun q hq => ?_, fun p hp h => ?_⟩
  · by_cases hj2 : j = tc
    · subst hj2; rw [pk_us, pk_us]; exact Or.inr (Or.inr (Or.inl rfl))
    · rw [pk_un hj2, pk_un hj2]; exact b j (by omega)
  · by_cases hq2 : q = tc + 1
    · subst hq2; rw [hl]; have := d tc (Nat.le_refl _); omega
    · rw [zl_up q (by omega)]; exact d q (by omega)
  · by_cases hp2 : p = tc
    · subst hp2
      left
      refine ⟨pk_us, fun q h1 h4 => ?_⟩
      have : q = p + 1 := by omega
      subst this
      rw [hl, zl_up _ (Nat.le_refl _)]
      omega
    · rw [pk_un hp2] at h
      rcases e p (by omega) h with hO | ⟨c', hc'⟩
      · left
        refine ⟨by rw [pk_un hp2]; exact hO.1, fun q h1 h4 => ?_⟩
        rw [zl_up p (by omega)]
        by_cases hq2 : q = tc + 1
        · subst hq2; rw [hl]; have := hO.2 tc (by omega) (Nat.le_refl _); omega
        · rw [zl_up q (by omega)]; exact hO.2 q h1 (by omega)
      · right
        obtain ⟨x1, x2, x3, x4, x5, x6⟩ := hc'
        refine ⟨c', by rw [pk_un hp2]; exact x1, x2, by omega, by rw [pk_un (by omega)]; exact x4, ?_, fun q h1 h4 => ?_⟩
        · rw [zl_up _ (by omega), zl_up _ (by omega)]; exact x5
        · rw [zl_up _ (by omega), zl_up _ (by omega)]; exact x6 q h1 h4
/-- a '}': the latest unclosed '{' is closed by it -/
theorem tk_close {tc ob : Nat} {tk tv cb : Nat → Int32} {v : Int32} (h : ZTK tc (ob + 1) tk tv cb) (hc : tc < 100) :
    ∃ p, p < tc ∧ tk p = 2 ∧ cb p < 0 ∧ (∀ q, p < q → q < tc → tk q = 2 → ¬ cb q < 0) ∧
      ZTK (tc + 1) ob (upd tk tc 3) (upd tv tc v) (upd (upd cb tc (-1)) p (nI tc)) := by
  obtain ⟨a, b, c, d, e⟩ := h
  have hex : ∃ p, p < tc ∧ tk p = 2 ∧ cb p < 0 ∧ (∀ q, p < q → q < tc → tk q = 2 → ¬ cb q < 0) := by
    have : ∀ n, n ≤ tc → (∀ q, n ≤ q → q < tc → tk q = 2 → ¬ cb q < 0) → ∃ p, p < tc ∧ tk p = 2 ∧ cb p < 0 ∧ (∀ q, p < q → q < tc → tk q = 2 → ¬ cb q < 0) := by
      intro n
      induction n with
      | zero =>
        intro _ hq
        have := zl_no e tc 0 (by omega) (fun p _ => hq p (by omega))
        have h0 : zl tk 0 = 0 := rfl
        omega
      | succ n ih =>
        intro hn hq
        by_cases h1 : tk n = 2 ∧ cb n < 0
        · exact ⟨n, by omega, h1.1, h1.2, fun q h2 => hq q (by omega)⟩
        · refine ih (by omega) (fun q h2 h3 h4 => ?_)
          by_cases h5 : q = n
          · subst h5; exact fun h6 => h1 ⟨h4, h6⟩
          · exact hq q (by omega) h3 h4
    exact this tc (Nat.le_refl _) (fun q h1 h2 => by omega)
  obtain ⟨p, hp, hp2, hp3, hp4⟩ := hex
  refine ⟨p, hp, hp2, hp3, hp4, ?_⟩
  have hO : Zop tc tk cb p := by
    rcases e p hp hp2 with hO | ⟨c', hc'⟩
    · exact hO
    · exact absurd hp3 (by rw [hc'.1]; exact zc_neg (by have := hc'.2.2.1; omega))
  have hl : zl (upd tk tc 3) (tc + 1) = zl tk tc - 1 := by
    rw [zl_3 pk_us, zl_up _ (Nat.le_refl _)]
  have hle : zl tk tc = zl tk p + 1 := by
    have h1 := zl_no e (tc - (p + 1)) (p + 1) (by omega) (fun q h1 h2 h3 => hp4 q (by omega) h2 h3)
    have h2 := hO.2 tc hp (Nat.le_refl _)
    have h3 := zl_2 hp2
    omega
  refine ⟨by omega, fun j hj => ?_, by rw [hl, c]; omega, fun q hq => ?_, fun j hj h => ?_⟩
  · by_cases hj2 : j = tc
    · subst hj2; rw [pk_us, pk_us]; exact Or.inr (Or.inr (Or.inr (Or.inl rfl)))
    · rw [pk_un hj2, pk_un hj2]; exact b j (by omega)
  · by_cases hq2 : q = tc + 1
    · subst hq2; rw [hl, c]; omega
    · rw [zl_up q (by omega)]; exact d q (by omega)
  · by_cases hj2 : j = tc
    · subst hj2; rw [pk_us] at h; exact absurd h (by decide)
    · rw [pk_un hj2] at h
      by_cases hjp : j = p
      · subst hjp
        right
        refine ⟨tc, pk_us, by omega, by omega, pk_us, ?_, fun q h1 h4 => ?_⟩
        · rw [hl, zl_up _ (by omega)]; omega
        · rw [zl_up _ (by omega), zl_up _ (by omega)]; exact hO.2 q h1 (by omega)
      · rcases e j (by omega) h with hO' | ⟨c', hc'⟩
        · left
          have hjl : j < p := by
            rcases Nat.lt_or_ge j p with h1 | h1
            · exact h1
            · exact absurd (by rw [hO'.1]; decide) (hp4 j (by omega) (by omega) h)
          refine ⟨by rw [pk_un hjp, pk_un hj2]; exact hO'.1, fun q h1 h4 => ?_⟩
          rw [zl_up j (by omega)]
          by_cases hq2 : q = tc + 1
          · subst hq2; rw [hl]; have := hO'.2 p hjl (by omega); omega
          · rw [zl_up q (by omega)]; exact hO'.2 q h1 (by omega)
        · right
          obtain ⟨x1, x2, x3, x4, x5, x6⟩ := hc'
          refine ⟨c', by rw [pk_un hjp, pk_un hj2]; exact x1, x2, by omega, by rw [pk_un (by omega)]; exact x4, ?_, fun q h1 h4 => ?_⟩
          · rw [zl_up _ (by omega), zl_up _ (by omega)]; exact x5
          · rw [zl_up _ (by omega), zl_up _ (by omega)]; exact x6 q h1 h4
/-- with no brace unclosed, every '{' has its '}' -/
theorem tk_all {tc : Nat} {tk tv cb : Nat → Int32} (h : ZTK tc 0 tk tv cb) {p : Nat} (hp : p < tc) (h2 : tk p = 2) : ∃ c, Zcl tc tk cb p c := by
  rcases h.2.2.2.2 p hp h2 with hO | hc
  · have h1 := hO.2 tc hp (Nat.le_refl _)
    have h3 := h.2.2.2.1 p (by omega)
    have h4 := h.2.2.1
    omega
  · exact hc
/-! ===== where a run may stand ===== -/
def Zk0 (tc : Nat) (tk : Nat → Int32) (q : Nat) : Prop := q ≤ tc ∧ zl tk q = 0
def Zk1 (tc : Nat) (tk cb : Nat → Int32) (p q : Nat) : Prop := p < tc ∧ tk p = 2 ∧ ∃ c, Zcl tc tk cb p c ∧ p < q ∧ q ≤ c ∧ zl tk q = zl tk p + 1
/-- q is a place of the procedure that frame n - 1 holds, or of the program itself -/
def ZPO (tc : Nat) (tk cb bp : Nat → Int32) (n q : Nat) : Prop :=
  match n with
  | 0 => Zk0 tc tk q
  | n + 1 => Zk1 tc tk cb (bp n).toNatClampNeg q
theorem po_le {tc : Nat} {tk cb bp : Nat → Int32} {n q : Nat} (h : ZPO tc tk cb bp n q) : q ≤ tc := by
  cases n with
  | zero => exact h.1
  | succ n => obtain ⟨_, _, c, hc, _, h1, _⟩ := h; have := hc.2.2.1; omega
theorem po_next {tc : Nat} {tk cb bp : Nat → Int32} {n q : Nat} (h : ZPO tc tk cb bp n q) (hq : q < tc) (h2 : tk q ≠ 2) (h3 : tk q ≠ 3) : ZPO tc tk cb bp n (q + 1) := by
  have hl := zl_o h2 h3
  cases n with
  | zero => exact ⟨by omega, by rw [hl]; exact h.2⟩
  | succ n =>
    obtain ⟨a, b, c, hc, h4, h5, h6⟩ := h
    have : q ≠ c := fun z => h3 (by rw [z]; exact hc.2.2.2.1)
    exact ⟨a, b, c, hc, by omega, by omega, by rw [hl]; exact h6⟩
theorem po_skip {tc : Nat} {tk cb bp : Nat → Int32} {n q c : Nat} (h : ZPO tc tk cb bp n q) (h2 : tk q = 2) (hc : Zcl tc tk cb q c) : ZPO tc tk cb bp n (c + 1) := by
  obtain ⟨x1, x2, x3, x4, x5, x6⟩ := hc
  cases n with
  | zero => exact ⟨by omega, by rw [x5]; exact h.2⟩
  | succ n =>
    obtain ⟨a, b, c', hc', h4, h5, h6⟩ := h
    have hne : q ≠ c' := fun z => by rw [z, hc'.2.2.2.1] at h2; exact absurd h2 (by decide)
    refine ⟨a, b, c', hc', by omega, ?_, by rw [x5]; exact h6⟩
    rcases Nat.lt_or_ge c' (c + 1) with h7 | h7
    · exfalso
      have h8 := hc'.2.2.2.2.1
      by_cases h9 : c' = c
      · subst h9; omega
      · have := x6 (c' + 1) (by omega) (by omega)
        omega
    · exact h7
theorem po_end {tc ob : Nat} {tk tv cb bp : Nat → Int32} {n q : Nat} (ht : ZTK tc ob tk tv cb) (h : ZPO tc tk cb bp n q) (hq : q < tc) (h3 : tk q = 3) : 0 < n := by
  cases n with
  | zero =>
    have h1 := zl_3 h3
    have h4 := ht.2.2.2.1 (q + 1) (by omega)
    have h5 := h.2
    omega
  | succ n => omega
theorem po_in {tc : Nat} {tk tv cb bp : Nat → Int32} {n p : Nat} (ht : ZTK tc 0 tk tv cb) (hp : p < tc) (h2 : tk p = 2) : ZPO tc tk cb (upd bp n (nI p)) (n + 1) (p + 1) := by
  obtain ⟨c, hc⟩ := tk_all ht hp h2
  have ha := ht.1
  show Zk1 tc tk cb (upd bp n (nI p) n).toNatClampNeg (p + 1)
  rw [pk_us, zc_i (by omega)]
  exact ⟨hp, h2, c, hc, by omega, by have := hc.2.1; omega, zl_2 h2⟩
theorem po_bp {tc : Nat} {tk cb bp bp' : Nat → Int32} {n q : Nat} (h : ZPO tc tk cb bp n q) (e : ∀ k, k < n → bp' k = bp k) : ZPO tc tk cb bp' n q := by
  cases n with
  | zero => exact h
  | succ n =>
    show Zk1 tc tk cb (bp' n).toNatClampNeg q
    rw [e n (by omega)]
    exact h
