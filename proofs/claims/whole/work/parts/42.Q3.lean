/-! the reference's table is the table of the best ways -/
section QS
variable {α : Type}
def qs_is (lt : α → α → Prop) (K : Nat → Option α) (P : Nat → Prop) (r : Option (Nat × α)) : Prop := match r with
  | none => ∀ j, P j → K j = none
  | some z => P z.1 ∧ K z.1 = some z.2 ∧ ∀ j, P j → ∀ y, K j = some y → ¬ lt y z.2 ∧ (j < z.1 → lt z.2 y)
theorem qs_qb {lt : α → α → Prop} {K : Nat → Option α} {N : Nat} {r : Option (Nat × α)} (h : qs_is lt K (fun i => i < N) r) : qb_is lt K N r := by
  cases r with
  | none => exact h
  | some z => exact h
theorem qs_n {lt : α → α → Prop} {K : Nat → Option α} {P P2 : Nat → Prop} {r : Option (Nat × α)} (h : qs_is lt K P r) (hp : ∀ i, P i → P2 i) (hn : ∀ i, P2 i → ¬ P i → K i = none) : qs_is lt K P2 r := by
  cases r with
  | none =>
    intro j hj
    by_cases q : P j
    · exact h j q
    · exact hn j hj q
  | some z =>
    refine ⟨hp _ h.1, h.2.1, fun j hj y hy => ?_⟩
    by_cases q : P j
    · exact h.2.2 j q y hy
    · rw [hn j hj q] at hy; cases hy
theorem qs_f {lt : α → α → Prop} (ho : qb_O lt) {K : Nat → Option α} {P : Nat → Prop} {i : Nat} {x : α} (h : qs_is lt K P none) (hk : K i = some x) : qs_is lt K (fun j => P j ∨ j = i) (some (i, x)) := by
  refine ⟨Or.inr rfl, hk, fun j hj y hy => ?_⟩
  rcases hj with hj | hj
  · rw [h j hj] at hy; cases hy
  · subst hj
    rw [hk] at hy; cases hy
    exact ⟨ho.ir _, fun q => absurd q (Nat.lt_irrefl _)⟩
theorem qs_b {lt : α → α → Prop} (ho : qb_O lt) {K : Nat → Option α} {P : Nat → Prop} {i k : Nat} {x z : α} (h : qs_is lt K P (some (k, z))) (hk : K i = some x) (hb : lt x z ∨ (¬ lt z x ∧ i < k)) : qs_is lt K (fun j => P j ∨ j = i) (some (i, x)) := by
  refine ⟨Or.inr rfl, hk, fun j hj y hy => ?_⟩
  rcases hj with hj | hj
  · have h1 := h.2.2 j hj y hy
    rcases hb with hb | ⟨hb, hi⟩
    · have h3 : lt x y := Classical.byContradiction (fun w => ho.nt x y z w h1.1 hb)
      exact ⟨ho.as _ _ h3, fun _ => h3⟩
    · refine ⟨fun w => ?_, fun w => ?_⟩
      · exact ho.nt y z x h1.1 hb w
      · have h4 := h1.2 (Nat.lt_trans w hi)
        exact Classical.byContradiction (fun q => (ho.nt z x y hb q) h4)
  · subst hj
    rw [hk] at hy; cases hy
    exact ⟨ho.ir _, fun q => absurd q (Nat.lt_irrefl _)⟩
theorem qs_k {lt : α → α → Prop} {K : Nat → Option α} {P : Nat → Prop} {i k : Nat} {x z : α} (h : qs_is lt K P (some (k, z))) (hk : K i = some x) (hb : ¬ (lt x z ∨ (¬ lt z x ∧ i < k))) : qs_is lt K (fun j => P j ∨ j = i) (some (k, z)) := by
  refine ⟨Or.inl h.1, h.2.1, fun j hj y hy => ?_⟩
  rcases hj with hj | hj
  · exact h.2.2 j hj y hy
  · subst hj
    rw [hk] at hy; cases hy
    refine ⟨fun q => hb (Or.inl q), fun q => ?_⟩
    exact Classical.byContradiction (fun w => hb (Or.inr ⟨w, q⟩))
end QS
abbrev qx_V : Type := Int64 × Int32 × Int64
def qx_lt (ps : Nat) (x y : qx_V) : Prop := if x.1 = y.1 then (if ps = 3 then (if x.2.1 = y.2.1 then x.2.2 < y.2.2 else x.2.1 < y.2.1) else x.2.2 < y.2.2) else x.1 < y.1
theorem qx_O (ps : Nat) : qb_O (qx_lt ps) := by
  refine ⟨?_, ?_, ?_⟩
  · exact fun x q => by
      unfold qx_lt at q
      rw [if_pos rfl] at q
      split at q
      · rw [if_pos rfl] at q; exact Int64.lt_irrefl q
      · exact Int64.lt_irrefl q
  · exact fun x y z h1 h2 => by
      unfold qx_lt at h1 h2 ⊢
      simp only [Int64.lt_iff_toInt_lt, Int32.lt_iff_toInt_lt, ← Int64.toInt_inj, ← Int32.toInt_inj] at h1 h2 ⊢
      generalize x.1.toInt = a1 at *
      generalize y.1.toInt = b1 at *
      generalize z.1.toInt = c1 at *
      generalize x.2.1.toInt = a2 at *
      generalize y.2.1.toInt = b2 at *
      generalize z.2.1.toInt = c2 at *
      generalize x.2.2.toInt = a3 at *
      generalize y.2.2.toInt = b3 at *
      generalize z.2.2.toInt = c3 at *
      repeat' split at h1
      all_goals (repeat' split at h2)
      all_goals (repeat' split)
      all_goals omega
  · exact fun x y h1 h2 => by
      unfold qx_lt at h1 h2
      simp only [Int64.lt_iff_toInt_lt, Int32.lt_iff_toInt_lt, ← Int64.toInt_inj, ← Int32.toInt_inj] at h1 h2
      repeat' split at h1
      all_goals (repeat' split at h2)
      all_goals omega
theorem qx_bt (ps : Nat) (x y : qx_V) (f g : Nat) (hf : f < 2 ^ 31) (hg : g < 2 ^ 31) : pt_lt ps (x.1, x.2.1, x.2.2, nI f) (y.1, y.2.1, y.2.2, nI g) ↔ (qx_lt ps x y ∨ (¬ qx_lt ps y x ∧ f < g)) := by
  unfold pt_lt pm_bt qx_lt
  have e : (¬ nI g ≤ nI f) ↔ f < g := by rw [nI_leI hg hf]; omega
  simp only [e, Int64.not_le, Int32.not_le]
  simp only [Int64.lt_iff_toInt_lt, Int32.lt_iff_toInt_lt, ← Int64.toInt_inj, ← Int32.toInt_inj]
  generalize x.1.toInt = a1 at *
  generalize y.1.toInt = b1 at *
  generalize x.2.1.toInt = a2 at *
  generalize y.2.1.toInt = b2 at *
  generalize x.2.2.toInt = a3 at *
  generalize y.2.2.toInt = b3 at *
  by_cases h1 : a1 = b1 <;> by_cases h2 : ps = 3 <;> by_cases h3 : a2 = b2 <;> by_cases h4 : a3 = b3 <;> simp only [h1, h2, h3, h4, if_true, if_false, Int.lt_irrefl, eq_comm, true_and, not_false_iff, false_or] <;> omega
/-- what is kept at a place, with the front's number -/
def qr_tf (r : Option (Nat × qx_V)) : Option pt_C := r.map (fun z => (z.2.1, z.2.2.1, z.2.2.2, nI (z.1 - 3)))
/-- one offer more -/
theorem qr_kp {ps : Nat} {K : Nat → Option qx_V} {P : Nat → Prop} {r : Option (Nat × qx_V)} {i : Nat} {x : qx_V} (h : qs_is (qx_lt ps) K P r) (hP : ∀ j, P j → 4 ≤ j ∧ j < 2 ^ 30) (hi : 4 ≤ i) (hi2 : i < 2 ^ 30) (hk : K i = some x) : ∃ r2, pt_kp ps (qr_tf r) (x.1, x.2.1, x.2.2, nI (i - 3)) = qr_tf r2 ∧ qs_is (qx_lt ps) K (fun j => P j ∨ j = i) r2 := by
  cases r with
  | none => exact ⟨some (i, x), rfl, qs_f (qx_O ps) h hk⟩
  | some z =>
    have hz := hP _ h.1
    have hb := qx_bt ps x z.2 (i - 3) (z.1 - 3) (by omega) (by omega)
    show ∃ r2, (if pt_lt ps _ _ then _ else _) = _ ∧ _
    by_cases q : pt_lt ps (x.1, x.2.1, x.2.2, nI (i - 3)) (z.2.1, z.2.2.1, z.2.2.2, nI (z.1 - 3))
    · refine ⟨some (i, x), by rw [if_pos q]; rfl, qs_b (k := z.1) (z := z.2) (qx_O ps) h hk ?_⟩
      rcases hb.mp q with w | ⟨w1, w2⟩
      · exact Or.inl w
      · exact Or.inr ⟨w1, by omega⟩
    · refine ⟨some z, by rw [if_neg q]; rfl, qs_k (k := z.1) (z := z.2) h hk (fun w => q (hb.mpr ?_))⟩
      rcases w with w | ⟨w1, w2⟩
      · exact Or.inl w
      · exact Or.inr ⟨w1, by omega⟩
section QR
variable (kd wd sr od sk ru me si : Nat → Int32) (cn mn ps : Nat) (br : Nat → Nat)
/-- the line from the break a to the break b (numbers from 1 on; 0 is the front) as line k -/
def qr_S (a b : Nat) : Nat → Int64 := pm_sv kd wd sr od sk (br (b - 1)) (if a = 0 then 0 else pr_bg kd od (br (b - 1)) (br (a - 1)))
def qr_ad (b : Nat) : Int64 := if pm_hy kd cn (br (b - 1)) then (sr (br (b - 1))).toInt64 else 0
def qr_be (a : Nat) : Int64 := if a = 0 then 0 else if pm_hy kd cn (br (a - 1)) then (sk (br (a - 1))).toInt64 else 0
abbrev qr_h (a : Nat) : Prop := 0 < a ∧ pm_hy kd cn (br (a - 1))
def qr_B (k a b : Nat) : Int32 := pl_B (qr_S kd wd sr od sk br a b) si (qr_ad kd sr cn br b) (qr_be kd sk cn br a) (me (pm_mi k mn))
def qr_C (k a b : Nat) : Nat := pl_C (qr_S kd wd sr od sk br a b) si (qr_ad kd sr cn br b) (qr_be kd sk cn br a) (me (pm_mi k mn))
def qr_O (k a b : Nat) : Int64 := pl_O (qr_S kd wd sr od sk br a b) si (qr_ad kd sr cn br b) (qr_be kd sk cn br a) (me (pm_mi k mn))
def qr_D (k a b c : Nat) : Int64 := pm_cost ru (qr_B kd wd sr od sk me si cn mn br k a b) (pm_pen kd wd od ru cn (br (b - 1))) (qr_C kd wd sr od sk me si cn mn br k a b) c (pm_hy kd cn (br (b - 1))) (qr_h kd cn br a) (br (b - 1) = cn)
abbrev qr_fr (a b : Nat) : Prop := ∀ x, x < b - 1 → a ≤ x → (-10000) < pm_pen kd wd od ru cn (br x)
def qr_cl (k a b : Nat) : Option Nat := if qr_fr kd wd od ru cn br a b ∧ pm_ok ru ps (qr_B kd wd sr od sk me si cn mn br k a b) (qr_O kd wd sr od sk me si cn mn br k a b) then some (qr_C kd wd sr od sk me si cn mn br k a b) else none
def qr_st (k a b c : Nat) (v : qx_V) : qx_V := (v.1 + qr_O kd wd sr od sk me si cn mn br k a b, v.2.1 + nI (pm_ab (qr_B kd wd sr od sk me si cn mn br k a b) (ru 1)), v.2.2 + qr_D kd wd sr od sk ru me si cn mn br k a b c)
def qr_pt (f : Int32) : Nat := if f = nI 5000 then 2 else f.toNatClampNeg + 3
def qr_X : Nat → Nat → Nat → Option (Nat × qx_V)
  | 0, b, c => if b = 0 ∧ c = 2 then some (0, (0, 0, 0)) else none
  | n + 1, b, c => if b = 0 then none else (pg_T kd wd sr od sk ru me si cn mn ps br (n + 1) (b - 1) c).map (fun y => (qr_pt y.2.2.2, (y.1, y.2.1, y.2.2.1)))
end QR
section QR2
variable {kd wd sr od sk ru me si : Nat → Int32} {cn mn ps : Nat} {br : Nat → Nat}
theorem qr_X_up {n b c : Nat} (hn : 1 ≤ n) : (qr_X kd wd sr od sk ru me si cn mn ps br) n b c = if b = 0 then none else ((pg_T kd wd sr od sk ru me si cn mn ps br) n (b - 1) c).map (fun y => (qr_pt y.2.2.2, (y.1, y.2.1, y.2.2.1))) := by
  obtain ⟨m, rfl⟩ : ∃ m, n = m + 1 := ⟨n - 1, by omega⟩
  rfl
theorem qr_X_v {n x c : Nat} (hn : 1 ≤ n) : pg_v ((pg_T kd wd sr od sk ru me si cn mn ps br) n x c) = ((qr_X kd wd sr od sk ru me si cn mn ps br) n (x + 1) c).map (fun z => z.2) := by
  rw [qr_X_up hn, if_neg (by omega), show x + 1 - 1 = x by omega]
  cases (pg_T kd wd sr od sk ru me si cn mn ps br) n x c <;> rfl
/-- four offers of a break -/
theorem qr_go {n j m c : Nat} {R : pt_R} {r : Option (Nat × qx_V)} (hn : 1 ≤ n) (hm : m < j) (hj : j < 400) (hR : R c = qr_tf r) (hr : qs_is (qx_lt ps) (qx_K ((qr_X kd wd sr od sk ru me si cn mn ps br) n) ((qr_cl kd wd sr od sk ru me si cn mn ps br) (n + 1)) ((qr_st kd wd sr od sk ru me si cn mn br) (n + 1)) (j + 1) c) (fun i => 4 * (m + 1) + 4 ≤ i ∧ i < 4 * (j + 1)) r) (hF : ∀ x, m < x → x < j → (-10000) < pm_pen kd wd od ru cn (br x)) :
    ∃ r2, pr_f kd wd sr od sk ru me si cn mn ps br (fun x c => pg_v ((pg_T kd wd sr od sk ru me si cn mn ps br) n x c)) (br j) (n + 1) m R c = qr_tf r2 ∧ qs_is (qx_lt ps) (qx_K ((qr_X kd wd sr od sk ru me si cn mn ps br) n) ((qr_cl kd wd sr od sk ru me si cn mn ps br) (n + 1)) ((qr_st kd wd sr od sk ru me si cn mn br) (n + 1)) (j + 1) c) (fun i => 4 * m + 4 ≤ i ∧ i < 4 * (j + 1)) r2 := by
  have hfr : qr_fr kd wd od ru cn br (m + 1) (j + 1) := fun x hx h2 => hF x (by omega) (by omega)
  have eB : pr_B kd wd sr od sk me si cn mn (br j) (br m) (n + 1) = qr_B kd wd sr od sk me si cn mn br (n + 1) (m + 1) (j + 1) := rfl
  have eC : pr_C kd wd sr od sk me si cn mn (br j) (br m) (n + 1) = qr_C kd wd sr od sk me si cn mn br (n + 1) (m + 1) (j + 1) := rfl
  have eO : pr_O kd wd sr od sk me si cn mn (br j) (br m) (n + 1) = qr_O kd wd sr od sk me si cn mn br (n + 1) (m + 1) (j + 1) := rfl
  have eD : ∀ c, pr_D kd wd sr od sk ru me si cn mn (br j) (br m) (n + 1) c = qr_D kd wd sr od sk ru me si cn mn br (n + 1) (m + 1) (j + 1) c := fun c => by
    unfold pr_D qr_D
    rw [eB, eC]
    have : (qr_h kd cn br (m + 1)) = (pm_hy kd cn (br m)) := propext ⟨fun q => q.2, fun q => ⟨by omega, q⟩⟩
    simp only [this, Nat.add_sub_cancel]
  -- the offers
  have hK : ∀ k, k < 4 → qx_K ((qr_X kd wd sr od sk ru me si cn mn ps br) n) ((qr_cl kd wd sr od sk ru me si cn mn ps br) (n + 1)) ((qr_st kd wd sr od sk ru me si cn mn br) (n + 1)) (j + 1) c (4 * m + 4 + k) = if (qr_cl kd wd sr od sk ru me si cn mn ps br) (n + 1) (m + 1) (j + 1) = some c then (pg_v ((pg_T kd wd sr od sk ru me si cn mn ps br) n m k)).map ((qr_st kd wd sr od sk ru me si cn mn br) (n + 1) (m + 1) (j + 1) k) else none := fun k hk => by
    unfold qx_K
    rw [show (4 * m + 4 + k) / 4 = m + 1 by omega, show (4 * m + 4 + k) % 4 = k by omega, qr_X_v hn, Option.map_map]
    rfl
  have nK : (∀ k, k < 4 → qx_K ((qr_X kd wd sr od sk ru me si cn mn ps br) n) ((qr_cl kd wd sr od sk ru me si cn mn ps br) (n + 1)) ((qr_st kd wd sr od sk ru me si cn mn br) (n + 1)) (j + 1) c (4 * m + 4 + k) = none) → qs_is (qx_lt ps) (qx_K ((qr_X kd wd sr od sk ru me si cn mn ps br) n) ((qr_cl kd wd sr od sk ru me si cn mn ps br) (n + 1)) ((qr_st kd wd sr od sk ru me si cn mn br) (n + 1)) (j + 1) c) (fun i => 4 * m + 4 ≤ i ∧ i < 4 * (j + 1)) r := fun h => qs_n hr (fun i hi => by omega) (fun i h1 h2 => by
    have := h (i - (4 * m + 4)) (by omega)
    rw [show 4 * m + 4 + (i - (4 * m + 4)) = i by omega] at this
    exact this)
  unfold pr_f
  rw [if_pos (show 1 < n + 1 by omega), eB, eO]
  by_cases hok : pm_ok ru ps (qr_B kd wd sr od sk me si cn mn br (n + 1) (m + 1) (j + 1)) (qr_O kd wd sr od sk me si cn mn br (n + 1) (m + 1) (j + 1))
  · rw [if_pos hok]
    have hcl : (qr_cl kd wd sr od sk ru me si cn mn ps br) (n + 1) (m + 1) (j + 1) = some (qr_C kd wd sr od sk me si cn mn br (n + 1) (m + 1) (j + 1)) := by
      unfold qr_cl
      rw [if_pos ⟨hfr, hok⟩]
    by_cases hc : c = qr_C kd wd sr od sk me si cn mn br (n + 1) (m + 1) (j + 1)
    · -- the offers one by one
      have main : ∀ t, t ≤ 4 → ∃ r2, pt_go ps (pr_C kd wd sr od sk me si cn mn (br j) (br m) (n + 1)) (pm_ab (qr_B kd wd sr od sk me si cn mn br (n + 1) (m + 1) (j + 1)) (ru 1)) m (qr_O kd wd sr od sk me si cn mn br (n + 1) (m + 1) (j + 1)) (pr_D kd wd sr od sk ru me si cn mn (br j) (br m) (n + 1)) (fun c => pg_v ((pg_T kd wd sr od sk ru me si cn mn ps br) n m c)) R t c = qr_tf r2 ∧ qs_is (qx_lt ps) (qx_K ((qr_X kd wd sr od sk ru me si cn mn ps br) n) ((qr_cl kd wd sr od sk ru me si cn mn ps br) (n + 1)) ((qr_st kd wd sr od sk ru me si cn mn br) (n + 1)) (j + 1) c) (fun i => (4 * (m + 1) + 4 ≤ i ∧ i < 4 * (j + 1)) ∨ (4 * m + 4 ≤ i ∧ i < 4 * m + 4 + t)) r2 := by
        intro t
        induction t with
        | zero => exact fun _ => ⟨r, hR, qs_n hr (fun i hi => Or.inl hi) (fun i h1 h2 => absurd h1 (by omega))⟩
        | succ t ih =>
          intro ht
          obtain ⟨r1, g1, g2⟩ := ih (by omega)
          have hk := hK t (by omega)
          rw [hcl, hc, if_pos rfl, ← hc] at hk
          cases hv : pg_v ((pg_T kd wd sr od sk ru me si cn mn ps br) n m t) with
          | none =>
            rw [hv] at hk
            refine ⟨r1, by rw [pt_go_n hv, g1], qs_n g2 (fun i hi => by omega) (fun i h1 h2 => ?_)⟩
            rw [show i = 4 * m + 4 + t by omega]
            exact hk
          | some x =>
            rw [hv] at hk
            obtain ⟨r2, g3, g4⟩ := qr_kp (i := 4 * m + 4 + t) (x := (qr_st kd wd sr od sk ru me si cn mn br) (n + 1) (m + 1) (j + 1) t x) g2 (fun q hq => by omega) (by omega) (by omega) hk
            refine ⟨r2, ?_, qs_n g4 (fun i hi => by omega) (fun i h1 h2 => absurd h1 (by omega))⟩
            rw [pt_go_s hv, if_pos (hc.trans eC.symm), g1, ← g3, eD, show 4 * m + 4 + t - 3 = 4 * m + t + 1 by omega]
            rfl
      obtain ⟨r2, g1, g2⟩ := main 4 (by omega)
      exact ⟨r2, g1, qs_n g2 (fun i hi => by omega) (fun i h1 h2 => absurd h1 (by omega))⟩
    · have hno : ∀ k, k < 4 → qx_K ((qr_X kd wd sr od sk ru me si cn mn ps br) n) ((qr_cl kd wd sr od sk ru me si cn mn ps br) (n + 1)) ((qr_st kd wd sr od sk ru me si cn mn br) (n + 1)) (j + 1) c (4 * m + 4 + k) = none := fun k hk => by
        rw [hK k hk, hcl, if_neg (fun q => hc (Option.some.inj q).symm)]
      refine ⟨r, ?_, nK hno⟩
      have main : ∀ t, pt_go ps (pr_C kd wd sr od sk me si cn mn (br j) (br m) (n + 1)) (pm_ab (qr_B kd wd sr od sk me si cn mn br (n + 1) (m + 1) (j + 1)) (ru 1)) m (qr_O kd wd sr od sk me si cn mn br (n + 1) (m + 1) (j + 1)) (pr_D kd wd sr od sk ru me si cn mn (br j) (br m) (n + 1)) (fun c => pg_v ((pg_T kd wd sr od sk ru me si cn mn ps br) n m c)) R t c = R c := by
        intro t
        induction t with
        | zero => rfl
        | succ t ih =>
          cases hv : pg_v ((pg_T kd wd sr od sk ru me si cn mn ps br) n m t) with
          | none => rw [pt_go_n hv, ih]
          | some x => rw [pt_go_s hv, if_neg (fun q => hc (q.trans eC)), ih]
      rw [main 4, hR]
  · rw [if_neg hok]
    have hcl : (qr_cl kd wd sr od sk ru me si cn mn ps br) (n + 1) (m + 1) (j + 1) = none := by
      unfold qr_cl
      rw [if_neg (fun q => hok q.2)]
    exact ⟨r, hR, nK (fun k hk => by rw [hK k hk, hcl, if_neg (fun q => nomatch q)])⟩
theorem qr_dn {n j c : Nat} (hn : 1 ≤ n) (hj : j < 400) : ∀ (m : Nat) (R : pt_R) (r : Option (Nat × qx_V)), m ≤ j → R c = qr_tf r → qs_is (qx_lt ps) (qx_K ((qr_X kd wd sr od sk ru me si cn mn ps br) n) ((qr_cl kd wd sr od sk ru me si cn mn ps br) (n + 1)) ((qr_st kd wd sr od sk ru me si cn mn br) (n + 1)) (j + 1) c) (fun i => 4 * m + 4 ≤ i ∧ i < 4 * (j + 1)) r → (∀ x, m ≤ x → x < j → (-10000) < pm_pen kd wd od ru cn (br x)) →
    ∃ r2, pt_dn (pr_f kd wd sr od sk ru me si cn mn ps br (fun x c => pg_v ((pg_T kd wd sr od sk ru me si cn mn ps br) n x c)) (br j) (n + 1)) (fun x => pm_pen kd wd od ru cn (br x)) m R c = qr_tf r2 ∧ qs_is (qx_lt ps) (qx_K ((qr_X kd wd sr od sk ru me si cn mn ps br) n) ((qr_cl kd wd sr od sk ru me si cn mn ps br) (n + 1)) ((qr_st kd wd sr od sk ru me si cn mn br) (n + 1)) (j + 1) c) (fun i => 4 ≤ i ∧ i < 4 * (j + 1)) r2
  | 0, R, r, _, hR, hr, _ => ⟨r, hR, qs_n hr (fun i hi => by omega) (fun i h1 h2 => absurd h1 (by omega))⟩
  | m + 1, R, r, hm, hR, hr, hF => by
    obtain ⟨r1, g1, g2⟩ := qr_go (m := m) hn (by omega) hj hR hr (fun x h1 h2 => hF x (by omega) h2)
    unfold pt_dn
    by_cases hp : (-10000) < pm_pen kd wd od ru cn (br m)
    · rw [if_pos hp]
      exact qr_dn hn hj m _ r1 (by omega) g1 g2 (fun x h1 h2 => (show x = m ∨ m + 1 ≤ x by omega).elim (fun e => e ▸ hp) (fun e => hF x e h2))
    · rw [if_neg hp]
      refine ⟨r1, g1, qs_n g2 (fun i hi => by omega) (fun i h1 h2 => ?_)⟩
      unfold qx_K
      have hcl : (qr_cl kd wd sr od sk ru me si cn mn ps br) (n + 1) (i / 4) (j + 1) = none := by
        unfold qr_cl
        rw [if_neg (fun q => hp (q.1 m (by omega) (by omega)))]
      rw [hcl, if_neg (fun q => nomatch q)]
theorem qr_pt_5 : qr_pt (nI 5000) = 2 := if_pos rfl
theorem qr_pt_i {i : Nat} (h4 : 4 ≤ i) (h : i < 1700) : qr_pt (nI (i - 3)) = i := by
  unfold qr_pt
  rw [if_neg (fun q => by have := (nI_eq (by omega) (by omega)).mp q; omega), nI_clamp (by omega)]
  omega
/-- the table of the reference is the table of the best ways -/
theorem qr_is (n b c : Nat) (hb : b ≤ 400) : qb_is (qx_lt ps) (qx_K ((qr_X kd wd sr od sk ru me si cn mn ps br) n) ((qr_cl kd wd sr od sk ru me si cn mn ps br) (n + 1)) ((qr_st kd wd sr od sk ru me si cn mn br) (n + 1)) b c) (4 * b) ((qr_X kd wd sr od sk ru me si cn mn ps br) (n + 1) b c) := by
  rcases Nat.eq_zero_or_pos b with h0 | h0
  · subst h0
    rw [qr_X_up (by omega), if_pos rfl]
    exact qb_0
  · obtain ⟨j, rfl⟩ : ∃ j, b = j + 1 := ⟨b - 1, by omega⟩
    rcases Nat.eq_zero_or_pos n with hn | hn
    · subst hn
      -- the first line
      have hK : ∀ i, ¬ i = 2 → qx_K ((qr_X kd wd sr od sk ru me si cn mn ps br) 0) ((qr_cl kd wd sr od sk ru me si cn mn ps br) (0 + 1)) ((qr_st kd wd sr od sk ru me si cn mn br) (0 + 1)) (j + 1) c i = none := fun i hi => by
        unfold qx_K
        have : (qr_X kd wd sr od sk ru me si cn mn ps br) 0 (i / 4) (i % 4) = none := by
          show (if i / 4 = 0 ∧ i % 4 = 2 then _ else _) = _
          rw [if_neg (by omega)]
        rw [this]
        split <;> rfl
      have hK2 : qx_K ((qr_X kd wd sr od sk ru me si cn mn ps br) 0) ((qr_cl kd wd sr od sk ru me si cn mn ps br) (0 + 1)) ((qr_st kd wd sr od sk ru me si cn mn br) (0 + 1)) (j + 1) c 2 = if (qr_cl kd wd sr od sk ru me si cn mn ps br) 1 0 (j + 1) = some c then some ((qr_st kd wd sr od sk ru me si cn mn br) 1 0 (j + 1) 2 (0, 0, 0)) else none := rfl
      have hfr : qr_fr kd wd od ru cn br 0 (j + 1) ↔ ∀ x, x < j → (-10000) < pm_pen kd wd od ru cn (br x) := ⟨fun q x hx => q x hx (Nat.zero_le _), fun q x hx _ => q x hx⟩
      have hT : (pg_T kd wd sr od sk ru me si cn mn ps br) 1 j c = if ∀ x, x < j → (-10000) < pm_pen kd wd od ru cn (br x) then pf_row kd wd sr od sk ru me si cn mn ps (br j) c else none := by
        simp only [pg_T, if_true]
        split <;> rfl
      rw [qr_X_up (by omega), if_neg (by omega), show j + 1 - 1 = j by omega, show 0 + 1 = 1 from rfl, hT]
      by_cases hx : (qr_cl kd wd sr od sk ru me si cn mn ps br) 1 0 (j + 1) = some c
      · have hx0 := hx
        unfold qr_cl at hx
        split at hx
        · rename_i hq
          have ec : qr_C kd wd sr od sk me si cn mn br 1 0 (j + 1) = c := Option.some.inj hx
          rw [if_pos (hfr.mp hq.1)]
          have e : pf_row kd wd sr od sk ru me si cn mn ps (br j) c = some (((qr_st kd wd sr od sk ru me si cn mn br) 1 0 (j + 1) 2 (0, 0, 0)).1, ((qr_st kd wd sr od sk ru me si cn mn br) 1 0 (j + 1) 2 (0, 0, 0)).2.1, ((qr_st kd wd sr od sk ru me si cn mn br) 1 0 (j + 1) 2 (0, 0, 0)).2.2, nI 5000) := by
            unfold pf_row
            have h2 : pm_ok ru ps (pf_B kd wd sr od sk me si cn mn (br j)) (pf_O kd wd sr od sk me si cn mn (br j)) := hq.2
            have h3 : c = pf_C kd wd sr od sk me si cn mn (br j) := ec.symm
            rw [if_pos h2, if_pos h3]
            have eD : pf_D kd wd sr od sk ru me si cn mn (br j) = qr_D kd wd sr od sk ru me si cn mn br 1 0 (j + 1) 2 := by
              unfold pf_D qr_D
              have : (qr_h kd cn br 0) = False := propext ⟨fun q => absurd q.1 (by omega), fun q => q.elim⟩
              simp only [this]
              rfl
            unfold qr_st
            simp only [Int64.zero_add, Int32.zero_add, ← eD]
            rfl
          rw [e]
          simp only [Option.map_some, qr_pt_5]
          refine ⟨by show 2 < 4 * (j + 1); omega, by show qx_K ((qr_X kd wd sr od sk ru me si cn mn ps br) 0) ((qr_cl kd wd sr od sk ru me si cn mn ps br) (0 + 1)) ((qr_st kd wd sr od sk ru me si cn mn br) (0 + 1)) (j + 1) c 2 = _; rw [hK2, if_pos hx0], fun i hi y hy => ?_⟩
          by_cases e2 : i = 2
          · subst e2
            have : qx_K ((qr_X kd wd sr od sk ru me si cn mn ps br) 0) ((qr_cl kd wd sr od sk ru me si cn mn ps br) (0 + 1)) ((qr_st kd wd sr od sk ru me si cn mn br) (0 + 1)) (j + 1) c 2 = some y := hy
            rw [hK2, if_pos hx0] at this
            cases this
            exact ⟨(qx_O ps).ir _, fun q => absurd q (Nat.lt_irrefl _)⟩
          · have : qx_K ((qr_X kd wd sr od sk ru me si cn mn ps br) 0) ((qr_cl kd wd sr od sk ru me si cn mn ps br) (0 + 1)) ((qr_st kd wd sr od sk ru me si cn mn br) (0 + 1)) (j + 1) c i = some y := hy
            rw [hK i e2] at this
            cases this
        · cases hx
      · have hz : (if ∀ x, x < j → (-10000) < pm_pen kd wd od ru cn (br x) then pf_row kd wd sr od sk ru me si cn mn ps (br j) c else none) = none := by
          by_cases ha : ∀ x, x < j → (-10000) < pm_pen kd wd od ru cn (br x)
          · rw [if_pos ha]
            unfold pf_row
            by_cases h2 : pm_ok ru ps (pf_B kd wd sr od sk me si cn mn (br j)) (pf_O kd wd sr od sk me si cn mn (br j))
            · rw [if_pos h2]
              have h3 : ¬ c = pf_C kd wd sr od sk me si cn mn (br j) := fun q => hx (by
                unfold qr_cl
                rw [if_pos ⟨hfr.mpr ha, h2⟩, q]
                rfl)
              rw [if_neg h3]
            · rw [if_neg h2]
          · rw [if_neg ha]
        rw [hz]
        intro i hi
        by_cases e2 : i = 2
        · subst e2
          show qx_K ((qr_X kd wd sr od sk ru me si cn mn ps br) 0) ((qr_cl kd wd sr od sk ru me si cn mn ps br) (0 + 1)) ((qr_st kd wd sr od sk ru me si cn mn br) (0 + 1)) (j + 1) c 2 = none
          rw [hK2, if_neg hx]
        · exact hK i e2
    · have h1 : qs_is (qx_lt ps) (qx_K ((qr_X kd wd sr od sk ru me si cn mn ps br) n) ((qr_cl kd wd sr od sk ru me si cn mn ps br) (n + 1)) ((qr_st kd wd sr od sk ru me si cn mn br) (n + 1)) (j + 1) c) (fun i => 4 * j + 4 ≤ i ∧ i < 4 * (j + 1)) none := fun i hi => absurd hi (by omega)
      obtain ⟨r2, g1, g2⟩ := qr_dn (n := n) (j := j) (c := c) hn (by omega) j (fun _ => none) none (Nat.le_refl _) rfl h1 (fun x h1 h2 => absurd h1 (by omega))
      have hT : (pg_T kd wd sr od sk ru me si cn mn ps br) (n + 1) j c = qr_tf r2 := by
        rw [← g1]
        simp only [pg_T, if_neg (show ¬ n = 0 by omega)]
      have hX : (qr_X kd wd sr od sk ru me si cn mn ps br) (n + 1) (j + 1) c = r2 := by
        rw [qr_X_up (by omega), if_neg (by omega), show j + 1 - 1 = j by omega, hT]
        cases r2 with
        | none => rfl
        | some z =>
          show some (qr_pt (nI (z.1 - 3)), _) = _
          have := g2.1
          rw [qr_pt_i (by omega) (by omega)]
      rw [hX]
      refine qs_qb (qs_n g2 (fun i hi => hi.2) (fun i h1 h2 => ?_))
      unfold qx_K
      have hi : i / 4 = 0 := by omega
      have : (qr_X kd wd sr od sk ru me si cn mn ps br) n (i / 4) (i % 4) = none := by
        rw [qr_X_up hn, if_pos hi]
      rw [this]
      split <;> rfl
end QR2
