/-! all layers of a search -/
section KQ
variable {d : kj_D} {QX : Nat → Nat → Nat → Option (Nat × qx_V)} {bn : Nat}
abbrev kq_X (d : kj_D) (bn : Nat) (QX : Nat → Nat → Nat → Option (Nat × qx_V)) : Prop := (∀ n b z, b ≤ bn → qb_is (qx_lt 3) (qx_K (QX n) (kj_cl d (n + 1)) (kj_st d (n + 1)) b z) (4 * b) (QX (n + 1) b z)) ∧ ∀ b z, QX 0 b z = if b = 0 ∧ z = 2 then some (0, (0, 0, 0)) else none
/-- ways of n lines, as a row keeps them -/
def kq_P (QX : Nat → Nat → Nat → Option (Nat × qx_V)) (n a z : Nat) : Option ke_K := (QX n a z).map (fun y => (y.2, n))
theorem kq_closed {n : Nat} {Z : Nat → Nat → ke_R} {op : Prop} [Decidable op] (hX : kq_X d bn QX) (hn : 1 ≤ n) (hop : ¬ op) {b z : Nat} (hb : b ≤ bn) (hZ : qb_is ke_T (kz_K d n (kq_P QX (n - 1)) Z op b z) (8 * b) (Z b z)) : Z b z = (QX n b z).map (fun y => (8 * (y.1 / 4) + y.1 % 4, y.2, n)) := by
  refine qb_uni hZ ?_
  have hX := hX.1 (n - 1) b z hb
  rw [show n - 1 + 1 = n by omega] at hX
  have hlo : ∀ x i, i < 4 → x < b → kz_K d n (kq_P QX (n - 1)) Z op b z (8 * x + i) = (qx_K (QX (n - 1)) (kj_cl d n) (kj_st d n) b z (4 * x + i)).map (fun w => (w, n)) := fun x i hi hx => by
    rw [kz_lo hi]
    unfold qx_K kq_P
    rw [show (4 * x + i) / 4 = x by omega, show (4 * x + i) % 4 = i by omega]
    by_cases hcl : kj_cl d n x b = some z
    · rw [if_pos hcl, if_pos hcl]
      cases QX (n - 1) x i with
      | none => rfl
      | some y =>
        show some (kj_sx d n x b i (y.2, n - 1)) = some _
        rw [kj_sx_st]
        show some (_, n - 1 + 1) = _
        rw [show n - 1 + 1 = n by omega]
    · rw [if_neg hcl, if_neg hcl]; rfl
  have hhi : ∀ i, i < 8 * b → ¬ i % 8 < 4 → kz_K d n (kq_P QX (n - 1)) Z op b z i = none := fun i hi h8 => by
    unfold kz_K
    rw [if_neg h8, if_neg hop]
    split <;> rfl
  have hloi : ∀ i, i < 8 * b → i % 8 < 4 → kz_K d n (kq_P QX (n - 1)) Z op b z i = (qx_K (QX (n - 1)) (kj_cl d n) (kj_st d n) b z (4 * (i / 8) + i % 4)).map (fun w => (w, n)) := fun i hi h8 => by
    have := hlo (i / 8) (i % 4) (by omega) (by omega)
    rw [show 8 * (i / 8) + i % 4 = i by omega] at this
    exact this
  cases hx : QX n b z with
  | none =>
    rw [hx] at hX
    intro i hi
    by_cases h8 : i % 8 < 4
    · rw [hloi i hi h8, hX _ (by omega)]; rfl
    · exact hhi i hi h8
  | some y =>
    rw [hx] at hX
    obtain ⟨h1, h2, h3⟩ := hX
    refine ⟨by show 8 * (y.1 / 4) + y.1 % 4 < 8 * b; omega, ?_, fun j hj w hw => ?_⟩
    · show kz_K d n (kq_P QX (n - 1)) Z op b z (8 * (y.1 / 4) + y.1 % 4) = _
      rw [hlo _ _ (by omega) (by omega), show 4 * (y.1 / 4) + y.1 % 4 = y.1 by omega, h2]
      rfl
    · by_cases h8 : j % 8 < 4
      · rw [hloi j hj h8] at hw
        cases hk : qx_K (QX (n - 1)) (kj_cl d n) (kj_st d n) b z (4 * (j / 8) + j % 4) with
        | none => rw [hk] at hw; cases hw
        | some v =>
          rw [hk] at hw
          cases hw
          obtain ⟨g1, g2⟩ := h3 _ (by omega) v hk
          refine ⟨fun q => ?_, fun q => Or.inl (g2 ?_)⟩
          · rcases q with q | ⟨_, q⟩
            · exact g1 q
            · exact Nat.lt_irrefl _ q
          · have q2 : j < 8 * (y.1 / 4) + y.1 % 4 := q
            omega
      · rw [hhi j hj h8] at hw; cases hw
theorem ke_en_c {p : Nat} : ke_en (8 * (p / 4) + p % 4) = 2 * p := by
  unfold ke_en
  omega
/-- nothing in a row: nothing in the next -/
theorem kq_none {n : Nat} (hX : kq_X d bn QX) (h : ∀ b z, b ≤ bn → z < 4 → QX n b z = none) : ∀ b z, b ≤ bn → z < 4 → QX (n + 1) b z = none := fun b z hb hz => by
  have h1 := hX.1 n b z hb
  cases hx : QX (n + 1) b z with
  | none => rfl
  | some y =>
    rw [hx] at h1
    have h2 := h1.2.1
    have h3 := h1.1
    unfold qx_K at h2
    rw [h (y.1 / 4) (y.1 % 4) (by omega) (by omega)] at h2
    split at h2 <;> cases h2
theorem kq_nones {n : Nat} (hX : kq_X d bn QX) (h : ∀ b z, b ≤ bn → z < 4 → QX n b z = none) : ∀ m, n ≤ m → ∀ b z, b ≤ bn → z < 4 → QX m b z = none := fun m hm => by
  obtain ⟨k, rfl⟩ : ∃ k, m = n + k := ⟨m - n, by omega⟩
  clear hm
  induction k with
  | zero => exact h
  | succ k ih => exact kq_none hX ih
/-- the ends of the rows: what the class looks at in layer l -/
def kq_E (QX : Nat → Nat → Nat → Option (Nat × qx_V)) (Y : Nat → Nat → ke_R) (op : Prop) [Decidable op] (ly bn l z : Nat) : Option ke_K := if l = ly ∧ op then (Y bn z).map Prod.snd else (QX l bn z).map (fun y => (y.2, l))
/-- what holds before layer n -/
abbrev kq_S (d : kj_D) (QX : Nat → Nat → Nat → Option (Nat × qx_V)) (op : Prop) [Decidable op] (bn pl ly le n : Nat) (Y : Nat → Nat → ke_R) (re : Nat → ke_R) (rb : ke_R) (bk ec : Nat → Int32) (wl : Nat) : Prop := (∀ l, 1 ≤ l → l < n → (l < ly ∨ ¬ op) → ∀ b z, b ≤ bn → z < 4 → ∀ y, QX l b z = some y → bk ((l - 1) * pl + (b * 4 + z)) = nI (2 * y.1)) ∧ (op → ly < n → (∀ b z, b ≤ bn → z < 4 → qb_is ke_T (kz_K d ly (kq_P QX (ly - 1)) Y op b z) (8 * b) (Y b z)) ∧ ∀ b z, b ≤ bn → z < 4 → kw_ bk ((ly - 1) * pl + (b * 4 + z)) (Y b z)) ∧ (∀ l, 1 ≤ l → l < n → qb_is ke_T (kq_E QX Y op ly bn l) 4 (re l) ∧ ec l = (match re l with | none => (-1) | some z => nI z.1)) ∧ (∀ l, n ≤ l → l < le → ec l = (-1)) ∧ (qb_is ke_T (fun i => (re (i + 1)).map Prod.snd) (n - 1) rb ∧ ∀ z, rb = some z → wl = z.1 + 1)
theorem kq_S.bks {d : kj_D} {QX : Nat → Nat → Nat → Option (Nat × qx_V)} {op : Prop} [Decidable op] {bn pl ly le n : Nat} {Y : Nat → Nat → ke_R} {re : Nat → ke_R} {rb : ke_R} {bk ec : Nat → Int32} {wl : Nat} (h : kq_S d QX op bn pl ly le n Y re rb bk ec wl) : ∀ l, 1 ≤ l → l < n → (l < ly ∨ ¬ op) → ∀ b z, b ≤ bn → z < 4 → ∀ y, QX l b z = some y → bk ((l - 1) * pl + (b * 4 + z)) = nI (2 * y.1) := h.1
theorem kq_S.opn {d : kj_D} {QX : Nat → Nat → Nat → Option (Nat × qx_V)} {op : Prop} [Decidable op] {bn pl ly le n : Nat} {Y : Nat → Nat → ke_R} {re : Nat → ke_R} {rb : ke_R} {bk ec : Nat → Int32} {wl : Nat} (h : kq_S d QX op bn pl ly le n Y re rb bk ec wl) : op → ly < n → (∀ b z, b ≤ bn → z < 4 → qb_is ke_T (kz_K d ly (kq_P QX (ly - 1)) Y op b z) (8 * b) (Y b z)) ∧ ∀ b z, b ≤ bn → z < 4 → kw_ bk ((ly - 1) * pl + (b * 4 + z)) (Y b z) := h.2.1
theorem kq_S.ends {d : kj_D} {QX : Nat → Nat → Nat → Option (Nat × qx_V)} {op : Prop} [Decidable op] {bn pl ly le n : Nat} {Y : Nat → Nat → ke_R} {re : Nat → ke_R} {rb : ke_R} {bk ec : Nat → Int32} {wl : Nat} (h : kq_S d QX op bn pl ly le n Y re rb bk ec wl) : ∀ l, 1 ≤ l → l < n → qb_is ke_T (kq_E QX Y op ly bn l) 4 (re l) ∧ ec l = (match re l with | none => (-1) | some z => nI z.1) := h.2.2.1
theorem kq_S.rest {d : kj_D} {QX : Nat → Nat → Nat → Option (Nat × qx_V)} {op : Prop} [Decidable op] {bn pl ly le n : Nat} {Y : Nat → Nat → ke_R} {re : Nat → ke_R} {rb : ke_R} {bk ec : Nat → Int32} {wl : Nat} (h : kq_S d QX op bn pl ly le n Y re rb bk ec wl) : ∀ l, n ≤ l → l < le → ec l = (-1) := h.2.2.2.1
theorem kq_S.best {d : kj_D} {QX : Nat → Nat → Nat → Option (Nat × qx_V)} {op : Prop} [Decidable op] {bn pl ly le n : Nat} {Y : Nat → Nat → ke_R} {re : Nat → ke_R} {rb : ke_R} {bk ec : Nat → Int32} {wl : Nat} (h : kq_S d QX op bn pl ly le n Y re rb bk ec wl) : qb_is ke_T (fun i => (re (i + 1)).map Prod.snd) (n - 1) rb ∧ ∀ z, rb = some z → wl = z.1 + 1 := h.2.2.2.2
variable {pl ly le n : Nat} {Y : Nat → Nat → ke_R} {re : Nat → ke_R} {rb : ke_R} {bk ec : Nat → Int32} {wl : Nat}
theorem kq_0 {op : Prop} [Decidable op] (hec : ∀ l, l < le → ec l = (-1)) (hly : 1 ≤ ly) : kq_S d QX op bn pl ly le 1 Y re none bk ec wl := by
  refine ⟨?_, ?_, ?_, ?_, ?_⟩
  · exact fun l h1 h2 => absurd h1 (by omega)
  · exact fun _ h => absurd h (by omega)
  · exact fun l h1 h2 => absurd h1 (by omega)
  · exact fun l _ h => hec l h
  · exact ⟨fun i hi => absurd hi (by omega), fun z q => nomatch q⟩
theorem kq_mul {pl bn n l b z : Nat} (hpl : (bn + 1) * 4 ≤ pl) (h1 : 1 ≤ l) (h2 : l < n) (hb : b ≤ bn) (hz : z < 4) : (l - 1) * pl + (b * 4 + z) < (n - 1) * pl := by
  have : (l - 1 + 1) * pl ≤ (n - 1) * pl := Nat.mul_le_mul_right _ (by omega)
  rw [Nat.add_mul, Nat.one_mul] at this
  omega
/-- the search stops: nothing is left -/
theorem kq_stop {op : Prop} [Decidable op] {Z : Nat → Nat → ke_R} {bk2 : Nat → Int32} (h : kq_S d QX op bn pl ly le n Y re rb bk ec wl) (hX : kq_X d bn QX) (hn1 : 1 ≤ n) (hn : n ≤ ly) (hle : ly < le) (hpl : (bn + 1) * 4 ≤ pl) (hbk : ∀ q, q < (n - 1) * pl → bk2 q = bk q)
    (hZ : ∀ b z, b ≤ bn → z < 4 → qb_is ke_T (kz_K d n (kq_P QX (n - 1)) Z (op ∧ n = ly) b z) (8 * b) (Z b z)) (h0 : ∀ b z, b ≤ bn → z < 4 → Z b z = none) : ∃ Y2 re2, kq_S d QX op bn pl ly le (ly + 1) Y2 re2 rb bk2 ec wl := by
  have hZ0 : ¬ (op ∧ n = ly) → ∀ b z, b ≤ bn → z < 4 → QX n b z = none := fun q b z hb hz => by
    have := kq_closed hX hn1 q hb (hZ b z hb hz)
    rw [h0 b z hb hz] at this
    cases hx : QX n b z with
    | none => rfl
    | some y => rw [hx] at this; cases this
  refine ⟨if op ∧ n = ly then Z else (fun _ _ => none), (fun l => if l < n then re l else none), fun l a1 a2 a3 b z hb hz y hy => ?_, fun o _ => ?_, fun l a1 a2 => ?_, fun l a1 a2 => h.rest l (by omega) a2, ?_, fun z hz => h.best.2 z hz⟩
  · rcases Nat.lt_or_ge l n with q | q
    · rw [hbk _ (kq_mul hpl a1 q hb hz)]
      exact h.bks l a1 q a3 b z hb hz y hy
    · have w : ¬ (op ∧ n = ly) := fun w => by
        rcases a3 with a3 | a3
        · omega
        · exact a3 w.1
      rw [kq_nones hX (hZ0 w) l q b z hb hz] at hy; cases hy
  · by_cases w : op ∧ n = ly
    · rw [if_pos w]
      obtain ⟨w1, w2⟩ := w
      subst w2
      refine ⟨fun b z hb hz => ?_, fun b z hb hz y hy => ?_⟩
      · refine qb_congr (hZ b z hb hz) (fun i _ => ?_)
        unfold kz_K
        by_cases q : i % 8 < 4
        · simp only [if_pos q]
        · simp only [if_neg q, if_pos o, and_true]
      · rw [h0 b z hb hz] at hy; cases hy
    · rw [if_neg w]
      have hlt : n < ly := by
        rcases Nat.lt_or_ge n ly with q | q
        · exact q
        · exact absurd ⟨o, by omega⟩ w
      refine ⟨fun b z hb hz i hi => ?_, fun b z hb hz y hy => nomatch hy⟩
      unfold kz_K kq_P
      rw [kq_nones hX (hZ0 w) (ly - 1) (by omega) (i / 8) (i % 4) (by omega) (by omega)]
      split
      · split
        · rfl
        · first | rfl | (split <;> rfl)
      · rfl
  · by_cases q : l < n
    · simp only [if_pos q]
      obtain ⟨e1, e2⟩ := h.ends l a1 q
      refine ⟨qb_congr e1 (fun j hj => ?_), e2⟩
      unfold kq_E
      have w : ¬ (l = ly ∧ op) := fun w => by omega
      rw [if_neg w, if_neg w]
    · simp only [if_neg q]
      refine ⟨fun j hj => ?_, h.rest l (by omega) (by omega)⟩
      unfold kq_E
      by_cases w : op ∧ n = ly
      · have e : l = ly := by omega
        rw [if_pos ⟨e, w.1⟩, if_pos w, h0 bn j (Nat.le_refl _) hj]; rfl
      · rw [if_neg w, kq_nones hX (hZ0 w) l (by omega) bn j (Nat.le_refl _) hj]
        split <;> rfl
  · have hb := h.best.1
    obtain ⟨k, hk⟩ : ∃ k, ly + 1 - 1 = (n - 1) + k := ⟨ly - (n - 1), by omega⟩
    rw [hk]
    refine qb_more (qb_congr hb (fun j hj => ?_)) k (fun j q1 q2 => ?_)
    · show (re (j + 1)).map Prod.snd = (if j + 1 < n then re (j + 1) else none).map Prod.snd
      rw [if_pos (show j + 1 < n by omega)]
    · show (if j + 1 < n then re (j + 1) else none).map Prod.snd = none
      rw [if_neg (by omega)]; rfl
/-- a layer more -/
theorem kq_next {op : Prop} [Decidable op] {Z : Nat → Nat → ke_R} {r rb2 : ke_R} {bk2 ec2 : Nat → Int32} {wl2 : Nat} (h : kq_S d QX op bn pl ly le n Y re rb bk ec wl) (hX : kq_X d bn QX) (hn1 : 1 ≤ n) (hn : n ≤ ly) (hle : ly < le) (hpl : (bn + 1) * 4 ≤ pl)
    (hZ : ∀ b z, b ≤ bn → z < 4 → qb_is ke_T (kz_K d n (kq_P QX (n - 1)) Z (op ∧ n = ly) b z) (8 * b) (Z b z) ∧ kw_ bk2 ((n - 1) * pl + (b * 4 + z)) (Z b z)) (hbk : ∀ q, q < (n - 1) * pl → bk2 q = bk q)
    (hr : qb_is ke_T (fun z => (Z bn z).map Prod.snd) 4 r) (hec : ec2 = match r with | none => ec | some z => upd ec n (nI z.1)) (hrb : ∀ K : Nat → Option ke_K, (∀ i, i < n - 1 → K i = (re (i + 1)).map Prod.snd) → K (n - 1) = r.map Prod.snd → qb_is ke_T K n rb2) (hwl : ∀ z, rb2 = some z → wl2 = z.1 + 1) :
    kq_S d QX op bn pl ly le (n + 1) (if op ∧ n = ly then Z else Y) (fun l => if l = n then r else re l) rb2 bk2 ec2 wl2 := by
  have hcl : ¬ (op ∧ n = ly) → ∀ b z, b ≤ bn → z < 4 → Z b z = (QX n b z).map (fun y => (8 * (y.1 / 4) + y.1 % 4, y.2, n)) := fun q b z hb hz => kq_closed hX hn1 q hb (hZ b z hb hz).1
  have hKE : ∀ j, j < 4 → kq_E QX (if op ∧ n = ly then Z else Y) op ly bn n j = (Z bn j).map Prod.snd := fun j hj => by
    unfold kq_E
    by_cases q : op ∧ n = ly
    · rw [if_pos ⟨q.2, q.1⟩, if_pos q]
    · rw [if_neg (fun w => q ⟨w.2, w.1⟩), hcl q bn j (Nat.le_refl _) hj]
      cases QX n bn j <;> rfl
  refine ⟨fun l a1 a2 a3 b z hb hz y hy => ?_, fun o a => ?_, fun l a1 a2 => ?_, fun l a1 a2 => ?_, ?_, hwl⟩
  · by_cases e : l = n
    · subst e
      have q : ¬ (op ∧ l = ly) := fun w => by
        rcases a3 with a3 | a3
        · omega
        · exact a3 w.1
      have h1 := (hZ b z hb hz).2
      rw [hcl q b z hb hz, hy] at h1
      rw [h1 _ rfl]
      show nI (ke_en (8 * (y.1 / 4) + y.1 % 4)) = _
      rw [ke_en_c]
    · rw [hbk _ (kq_mul hpl a1 (by omega) hb hz)]
      exact h.bks l a1 (by omega) a3 b z hb hz y hy
  · have e : n = ly := by omega
    subst e
    rw [if_pos ⟨o, rfl⟩]
    refine ⟨fun b z hb hz => ?_, fun b z hb hz => (hZ b z hb hz).2⟩
    refine qb_congr (hZ b z hb hz).1 (fun i _ => ?_)
    unfold kz_K
    by_cases q : i % 8 < 4
    · simp only [if_pos q]
    · simp only [if_neg q, if_pos o, and_true]
  · by_cases e : l = n
    · subst e
      simp only [if_true]
      refine ⟨qb_congr hr (fun j hj => (hKE j hj).symm), ?_⟩
      rw [hec]
      cases r with
      | none => exact h.rest l (Nat.le_refl _) (by omega)
      | some z => simp only [upd, if_true]
    · simp only [if_neg e]
      obtain ⟨e1, e2⟩ := h.ends l a1 (by omega)
      refine ⟨qb_congr e1 (fun j hj => ?_), ?_⟩
      · unfold kq_E
        have q : ¬ (l = ly ∧ op) := fun w => by omega
        rw [if_neg q, if_neg q]
      · rw [hec]
        cases r with
        | none => exact e2
        | some z => simp only [upd, if_neg e]; exact e2
  · rw [hec]
    cases r with
    | none => exact h.rest l (by omega) a2
    | some z => simp only [upd, if_neg (show ¬ l = n by omega)]; exact h.rest l (by omega) a2
  · rw [show n + 1 - 1 = n by omega]
    refine hrb _ (fun i hi => ?_) ?_
    · show (if i + 1 = n then r else re (i + 1)).map Prod.snd = _
      rw [if_neg (by omega)]
    · show (if n - 1 + 1 = n then r else re (n - 1 + 1)).map Prod.snd = _
      rw [if_pos (by omega)]
end KQ
