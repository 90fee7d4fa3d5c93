/-! the class's lines: what judge, isAllowed, demeritsOf say of the line from a to b as line n -/
abbrev kj_D : Type := (Nat → Int64) × (Nat → Int64) × (Nat → Int64) × (Nat → Int64) × (Nat → Int32) × (Nat → Int32) × (Nat → Int32) × (Nat → Int32) × (Nat → Int32) × (Nat → Int32) × (Int64) × (Int64) × (Int64) × (Int64) × (Int64) × (Int64) × (Int64) × (Int64) × (Nat) × (Nat) × (Nat) × (Nat → Nat) × (Nat → Nat) × (Nat → Nat)
abbrev kj_D.iw (d : kj_D) : Nat → Int64 := d.1
abbrev kj_D.is_ (d : kj_D) : Nat → Int64 := d.2.1
abbrev kj_D.ih (d : kj_D) : Nat → Int64 := d.2.2.1
abbrev kj_D.ij (d : kj_D) : Nat → Int64 := d.2.2.2.1
abbrev kj_D.ba (d : kj_D) : Nat → Int32 := d.2.2.2.2.1
abbrev kj_D.bb (d : kj_D) : Nat → Int32 := d.2.2.2.2.2.1
abbrev kj_D.bo (d : kj_D) : Nat → Int32 := d.2.2.2.2.2.2.1
abbrev kj_D.bh (d : kj_D) : Nat → Int32 := d.2.2.2.2.2.2.2.1
abbrev kj_D.ms (d : kj_D) : Nat → Int32 := d.2.2.2.2.2.2.2.2.1
abbrev kj_D.ru (d : kj_D) : Nat → Int32 := d.2.2.2.2.2.2.2.2.2.1
abbrev kj_D.l0 (d : kj_D) : Int64 := d.2.2.2.2.2.2.2.2.2.2.1
abbrev kj_D.l1 (d : kj_D) : Int64 := d.2.2.2.2.2.2.2.2.2.2.2.1
abbrev kj_D.l2 (d : kj_D) : Int64 := d.2.2.2.2.2.2.2.2.2.2.2.2.1
abbrev kj_D.l3 (d : kj_D) : Int64 := d.2.2.2.2.2.2.2.2.2.2.2.2.2.1
abbrev kj_D.r0 (d : kj_D) : Int64 := d.2.2.2.2.2.2.2.2.2.2.2.2.2.2.1
abbrev kj_D.r1 (d : kj_D) : Int64 := d.2.2.2.2.2.2.2.2.2.2.2.2.2.2.2.1
abbrev kj_D.r2 (d : kj_D) : Int64 := d.2.2.2.2.2.2.2.2.2.2.2.2.2.2.2.2.1
abbrev kj_D.r3 (d : kj_D) : Int64 := d.2.2.2.2.2.2.2.2.2.2.2.2.2.2.2.2.2.1
abbrev kj_D.mc (d : kj_D) : Nat := d.2.2.2.2.2.2.2.2.2.2.2.2.2.2.2.2.2.2.1
abbrev kj_D.bn (d : kj_D) : Nat := d.2.2.2.2.2.2.2.2.2.2.2.2.2.2.2.2.2.2.2.1
abbrev kj_D.ps (d : kj_D) : Nat := d.2.2.2.2.2.2.2.2.2.2.2.2.2.2.2.2.2.2.2.2.1
abbrev kj_D.ti (d : kj_D) : Nat → Nat := d.2.2.2.2.2.2.2.2.2.2.2.2.2.2.2.2.2.2.2.2.2.1
abbrev kj_D.tg (d : kj_D) : Nat → Nat := d.2.2.2.2.2.2.2.2.2.2.2.2.2.2.2.2.2.2.2.2.2.2.1
abbrev kj_D.lo (d : kj_D) : Nat → Nat := d.2.2.2.2.2.2.2.2.2.2.2.2.2.2.2.2.2.2.2.2.2.2.2
def kj_E (d : kj_D) (n x y : Nat) : Int64 := (d.ms (max 1 (min n d.mc) - 1)).toInt64 - (d.iw (d.ti y) - d.iw (min (d.tg x) (d.ti y)) + d.l0 + d.r0 + (d.ba y).toInt64 + (d.bb x).toInt64)
def kj_P (d : kj_D) (x y : Nat) : Int64 := d.is_ (d.ti y) - d.is_ (min (d.tg x) (d.ti y)) + d.l1 + d.r1
def kj_F (d : kj_D) (x y : Nat) : Int64 := d.ih (d.ti y) - d.ih (min (d.tg x) (d.ti y)) + d.l2 + d.r2
def kj_L (d : kj_D) (x y : Nat) : Int64 := d.ij (d.ti y) - d.ij (min (d.tg x) (d.ti y)) + d.l3 + d.r3
def kj_B (d : kj_D) (n x y : Nat) : Int32 := pm_lb (kj_E d n x y) (kj_P d x y) (kj_F d x y) (kj_L d x y)
def kj_C (d : kj_D) (n x y : Nat) : Nat := pm_lc (kj_E d n x y) (kj_P d x y) (kj_F d x y) (kj_L d x y)
def kj_O (d : kj_D) (n x y : Nat) : Int64 := pm_lo (kj_E d n x y) (kj_L d x y)
theorem kj_C_lt (d : kj_D) (n x y : Nat) : kj_C d n x y < 4 := Nat.lt_succ_of_le (pm_lc_le _ _ _ _)
abbrev kj_ok (d : kj_D) (n x y : Nat) : Prop := pm_ok d.ru d.ps (kj_B d n x y) (kj_O d n x y)
def kj_cl (d : kj_D) (n x y : Nat) : Option Nat := if d.lo y ≤ x ∧ kj_ok d n x y then some (kj_C d n x y) else none
def kj_m (d : kj_D) (n x y : Nat) : Int64 := pk_dem d.ru (kj_B d n x y) (d.bo y) (d.bh x) (d.bh y) y d.bn
def kj_sx (d : kj_D) (n x y z : Nat) : ke_K → ke_K := ke_st (kj_O d n x y) (pk_ov d.ps (kj_B d n x y) (d.ru 1)) (kj_m d n x y) (if pm_adj (kj_C d n x y) z then (d.ru 5).toInt64 else 0)
/-- what is offered to the place of b and z, by the numbers of the offers -/
def kz_K (d : kj_D) (n : Nat) (P : Nat → Nat → Option ke_K) (Z : Nat → Nat → ke_R) (op : Prop) [Decidable op] (b z i : Nat) : Option ke_K :=
  if kj_cl d n (i / 8) b = some z then (if i % 8 < 4 then (P (i / 8) (i % 4)).map (kj_sx d n (i / 8) b (i % 4)) else if op then ((Z (i / 8) (i % 4)).map Prod.snd).map (kj_sx d n (i / 8) b (i % 4)) else none) else none
section KZ
variable {d : kj_D} {n : Nat} {P : Nat → Nat → Option ke_K} {Z : Nat → Nat → ke_R} {x y z : Nat}
theorem kz_lo {op : Prop} [Decidable op] {i : Nat} (hi : i < 4) : kz_K d n P Z op y z (8 * x + i) = if kj_cl d n x y = some z then (P x i).map (kj_sx d n x y i) else none := by
  unfold kz_K
  rw [show (8 * x + i) / 8 = x by omega, show (8 * x + i) % 4 = i by omega, if_pos (show (8 * x + i) % 8 < 4 by omega)]
theorem kz_hi {op : Prop} [Decidable op] {i : Nat} (hi : i < 4) : kz_K d n P Z op y z (8 * x + 4 + i) = if kj_cl d n x y = some z then (if op then ((Z x i).map Prod.snd).map (kj_sx d n x y i) else none) else none := by
  unfold kz_K
  rw [show (8 * x + 4 + i) / 8 = x by omega, show (8 * x + 4 + i) % 4 = i by omega, if_neg (show ¬ (8 * x + 4 + i) % 8 < 4 by omega)]
theorem kz_none {op : Prop} [Decidable op] (h : ¬ kj_cl d n x y = some z) : ∀ i, i < 8 → kz_K d n P Z op y z (8 * x + i) = none := fun i hi => by
  unfold kz_K
  rw [show (8 * x + i) / 8 = x by omega, if_neg h]
theorem kz_no_b {op : Prop} [Decidable op] (h : ∀ i, i < 4 → P x i = none) : ∀ i, i < 4 → kz_K d n P Z op y z (8 * x + i) = none := fun i hi => by
  rw [kz_lo hi, h i hi]
  split <;> rfl
theorem kz_no_n {op : Prop} [Decidable op] (h : op → ∀ i, i < 4 → Z x i = none) : ∀ i, i < 4 → kz_K d n P Z op y z (8 * x + 4 + i) = none := fun i hi => by
  rw [kz_hi hi]
  split
  · split
    · rename_i q
      rw [h q i hi]; rfl
    · rfl
  · rfl
end KZ
section KR
variable {K : Nat → Option ke_K} {N pl q : Nat} {ro ro2 : Nat → Int64} {rv rv2 : Nat → Int32} {rd rd2 : Nat → Int64} {rc rc2 bk bk2 : Nat → Int32}
theorem ke_at_more (h : ke_at K N pl q ro rv rd rc bk) : ∀ d, (∀ i, i < d → K (N + i) = none) → ke_at K (N + d) pl q ro rv rd rc bk := fun d hz => by
  obtain ⟨r, h1, h2, h3⟩ := h
  exact ⟨r, h1, h2, qb_more h3 d (fun j a b => by have := hz (j - N) (by omega); rw [show N + (j - N) = j by omega] at this; exact this)⟩
theorem ke_at_congr (h : ke_at K N pl q ro rv rd rc bk) (e1 : ro2 pl = ro pl) (e2 : rv2 pl = rv pl) (e3 : rd2 pl = rd pl) (e4 : rc2 pl = rc pl) (e5 : bk2 q = bk q) : ke_at K N pl q ro2 rv2 rd2 rc2 bk2 := by
  obtain ⟨r, h1, h2, h3⟩ := h
  exact ⟨r, kv_congr h1 e1 e2 e3 e4, fun z hz => e5.trans (h2 z hz), h3⟩
theorem ke_at_fr {pl2 q2 : Nat} (hf : kf_ pl2 ro rv rd rc ro2 rv2 rd2 rc2) (hb : ∀ q, ¬ q = q2 → bk2 q = bk q) (hp : ¬ pl = pl2) (hq : ¬ q = q2) (h : ke_at K N pl q ro rv rd rc bk) : ke_at K N pl q ro2 rv2 rd2 rc2 bk2 := by
  obtain ⟨a, b, c, d⟩ := hf pl hp
  exact ke_at_congr h a b c d (hb q hq)
theorem ke_at_cg {K2 : Nat → Option ke_K} (h : ke_at K N pl q ro rv rd rc bk) (e : ∀ j, j < N → K j = K2 j) : ke_at K2 N pl q ro rv rd rc bk := by
  obtain ⟨r, h1, h2, h3⟩ := h
  exact ⟨r, h1, h2, qb_congr h3 e⟩
end KR
/-- the four places of a break -/
def kr_at (K : Nat → Nat → Option ke_K) (N y off : Nat) (ro : Nat → Int64) (rv : Nat → Int32) (rd : Nat → Int64) (rc bk : Nat → Int32) : Prop := ∀ z, z < 4 → ke_at (K z) N (y * 4 + z) (off + (y * 4 + z)) ro rv rd rc bk
/-- all else stays -/
def kr_fr (y off : Nat) (ro : Nat → Int64) (rv : Nat → Int32) (rd : Nat → Int64) (rc bk : Nat → Int32) (ro2 : Nat → Int64) (rv2 : Nat → Int32) (rd2 : Nat → Int64) (rc2 bk2 : Nat → Int32) : Prop := (∀ p, p < y * 4 ∨ y * 4 + 4 ≤ p → ro2 p = ro p ∧ rv2 p = rv p ∧ rd2 p = rd p ∧ rc2 p = rc p) ∧ ∀ q, q < off + y * 4 ∨ off + y * 4 + 4 ≤ q → bk2 q = bk q
section KR2
variable {K : Nat → Nat → Option ke_K} {N y off f : Nat} {ro ro2 ro3 : Nat → Int64} {rv rv2 rv3 : Nat → Int32} {rd rd2 rd3 : Nat → Int64} {rc rc2 rc3 bk bk2 bk3 : Nat → Int32}
theorem kr_rf : kr_fr y off ro rv rd rc bk ro rv rd rc bk := ⟨fun _ _ => ⟨rfl, rfl, rfl, rfl⟩, fun _ _ => rfl⟩
theorem kr_tr (h : kr_fr y off ro rv rd rc bk ro2 rv2 rd2 rc2 bk2) (h2 : kr_fr y off ro2 rv2 rd2 rc2 bk2 ro3 rv3 rd3 rc3 bk3) : kr_fr y off ro rv rd rc bk ro3 rv3 rd3 rc3 bk3 :=
  ⟨fun p hp => ⟨(h2.1 p hp).1.trans (h.1 p hp).1, (h2.1 p hp).2.1.trans (h.1 p hp).2.1, (h2.1 p hp).2.2.1.trans (h.1 p hp).2.2.1, (h2.1 p hp).2.2.2.trans (h.1 p hp).2.2.2⟩, fun q hq => (h2.2 q hq).trans (h.2 q hq)⟩
theorem kr_of (hf : f < 4) (h : kf_ (y * 4 + f) ro rv rd rc ro2 rv2 rd2 rc2) (hb : ∀ q, ¬ q = off + (y * 4 + f) → bk2 q = bk q) : kr_fr y off ro rv rd rc bk ro2 rv2 rd2 rc2 bk2 := ⟨fun p hp => h p (by omega), fun q hq => hb q (by omega)⟩
/-- nothing is offered -/
theorem kr_none {D : Nat} (h : kr_at K N y off ro rv rd rc bk) (hz : ∀ z, z < 4 → ∀ i, i < D → K z (N + i) = none) : kr_at K (N + D) y off ro rv rd rc bk := fun z h4 => ke_at_more (h z h4) D (hz z h4)
/-- offers to the place f alone -/
theorem kr_some {D : Nat} (hf : f < 4) (h : kr_at K N y off ro rv rd rc bk) (hz : ∀ z, z < 4 → ¬ z = f → ∀ i, i < D → K z (N + i) = none) (hk : kf_ (y * 4 + f) ro rv rd rc ro2 rv2 rd2 rc2) (hb : ∀ q, ¬ q = off + (y * 4 + f) → bk2 q = bk q) (hn : ke_at (K f) (N + D) (y * 4 + f) (off + (y * 4 + f)) ro2 rv2 rd2 rc2 bk2) : kr_at K (N + D) y off ro2 rv2 rd2 rc2 bk2 := fun z h4 => by
  by_cases e : z = f
  · subst e; exact hn
  · exact ke_at_more (ke_at_fr hk hb (by omega) (by omega) (h z h4)) D (hz z h4 e)
end KR2
/-- does a break have a way in a row -/
theorem kv_any {ro : Nat → Int64} {rv : Nat → Int32} {rd : Nat → Int64} {rc : Nat → Int32} {x : Nat} {Pr : Nat → Option ke_K} (h : ∀ i, i < 4 → kv_ ro rv rd rc (x * 4 + i) (Pr i)) (hn : ¬ (¬ rc (x * 4) = (-1) ∨ ¬ rc (x * 4 + 1) = (-1) ∨ ¬ rc (x * 4 + 2) = (-1) ∨ ¬ rc (x * 4 + 3) = (-1))) : ∀ i, i < 4 → Pr i = none := fun i hi => by
  refine (ke_has (h i hi)).mp ?_
  rcases (show i = 0 ∨ i = 1 ∨ i = 2 ∨ i = 3 by omega) with e | e | e | e <;> subst e
  · exact Decidable.not_not.mp (fun q => hn (Or.inl q))
  · exact Decidable.not_not.mp (fun q => hn (Or.inr (Or.inl q)))
  · exact Decidable.not_not.mp (fun q => hn (Or.inr (Or.inr (Or.inl q))))
  · exact Decidable.not_not.mp (fun q => hn (Or.inr (Or.inr (Or.inr q))))
theorem kf_tr {pl : Nat} {ro ro2 ro3 : Nat → Int64} {rv rv2 rv3 : Nat → Int32} {rd rd2 rd3 : Nat → Int64} {rc rc2 rc3 : Nat → Int32} (h : kf_ pl ro rv rd rc ro2 rv2 rd2 rc2) (h2 : kf_ pl ro2 rv2 rd2 rc2 ro3 rv3 rd3 rc3) : kf_ pl ro rv rd rc ro3 rv3 rd3 rc3 := fun p hp => ⟨(h2 p hp).1.trans (h p hp).1, (h2 p hp).2.1.trans (h p hp).2.1, (h2 p hp).2.2.1.trans (h p hp).2.2.1, (h2 p hp).2.2.2.trans (h p hp).2.2.2⟩
theorem kj_cl_y {d : kj_D} {n x y : Nat} (h1 : d.lo y ≤ x) (h2 : kj_ok d n x y) : kj_cl d n x y = some (kj_C d n x y) := if_pos ⟨h1, h2⟩
theorem kj_cl_n {d : kj_D} {n x y z : Nat} (h2 : ¬ kj_ok d n x y) : ¬ kj_cl d n x y = some z := by
  unfold kj_cl
  rw [if_neg (fun q => h2 q.2)]
  exact fun q => nomatch q
theorem kj_cl_o {d : kj_D} {n x y z : Nat} (h : kj_cl d n x y = some (kj_C d n x y)) (hz : ¬ z = kj_C d n x y) : ¬ kj_cl d n x y = some z := by
  rw [h]
  exact fun q => hz (Option.some.inj q).symm
