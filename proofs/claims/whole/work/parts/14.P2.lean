/-! sums of items behind a break, downwards; the row of a break, from its nearest break down -/
def pm_rs (f : Nat → Int64) (b : Nat) : Nat → Int64
  | 0 => 0
  | d + 1 => pm_rs f b d + f (b - d - 1)
abbrev pm_bx (kd : Nat → Int32) (i : Nat) : Prop := kd i = 0 ∨ kd i = nI 4
def pm_kf (kd : Nat → Int32) (b : Nat) : Nat → Nat
  | 0 => b
  | d + 1 => if pm_bx kd (b - d - 1) then b - d - 1 else pm_kf kd b d
theorem pm_kf_le (kd : Nat → Int32) (b : Nat) : ∀ d, pm_kf kd b d ≤ b
  | 0 => Nat.le_refl _
  | d + 1 => by
    unfold pm_kf
    split
    · omega
    · exact pm_kf_le kd b d
def pm_sv (kd wd sr od sk : Nat → Int32) (b bg : Nat) : Nat → Int64 := fun q => pm_rs (fun x => pm_it kd wd sr od sk x q) b (b - bg)
def pr_bg (kd od : Nat → Int32) (b k : Nat) : Nat := if pm_wh kd od k then k + 1 else pm_kf kd b (b - 1 - k)
theorem pr_step {kd wd sr od sk : Nat → Int32} {su1 ke1 su2 ke2 : Nat → Int64} {b kk kf1 kf2 : Nat} (h1 : 1 ≤ kk) (hkb : kk ≤ b) (hS : ∀ q, q < 6 → su1 q = pm_sv kd wd sr od sk b kk q) (hK : kf1 = pm_kf kd b (b - kk)) (hE : ∀ q, q < 6 → ke1 q = pm_sv kd wd sr od sk b kf1 q)
    (h : (∀ k, k < 6 → su2 k = su1 k + pm_it kd wd sr od sk (kk - 1) k) ∧ (if kd (kk - 1) = 0 ∨ kd (kk - 1) = nI 4 then kf2 = kk - 1 ∧ ∀ k, k < 6 → ke2 k = su2 k else kf2 = kf1 ∧ ke2 = ke1)) :
    (∀ q, q < 6 → su2 q = pm_sv kd wd sr od sk b (kk - 1) q) ∧ kf2 = pm_kf kd b (b - (kk - 1)) ∧ ∀ q, q < 6 → ke2 q = pm_sv kd wd sr od sk b kf2 q := by
  have e1 : b - (kk - 1) = (b - kk) + 1 := by omega
  have e2 : b - (b - kk) - 1 = kk - 1 := by omega
  have hs : ∀ q, q < 6 → su2 q = pm_sv kd wd sr od sk b (kk - 1) q := fun q hq => by
    rw [h.1 q hq, hS q hq]
    show _ = pm_rs _ b (b - (kk - 1))
    rw [e1]
    show _ = pm_rs _ b (b - kk) + _
    rw [e2]
    rfl
  refine ⟨hs, ?_⟩
  rw [e1]
  show kf2 = (if pm_bx kd (b - (b - kk) - 1) then _ else _) ∧ _
  rw [e2]
  have h2 := h.2
  by_cases hb : pm_bx kd (kk - 1)
  · rw [if_pos hb] at h2
    rw [if_pos hb]
    refine ⟨h2.1, fun q hq => ?_⟩
    rw [h2.2 q hq, hs q hq, h2.1]
  · rw [if_neg hb] at h2
    rw [if_neg hb]
    refine ⟨h2.1.trans hK, fun q hq => ?_⟩
    rw [h2.2, hE q hq, h2.1]
theorem pr_goS {kd wd sr od sk : Nat → Int32} {su1 ke1 : Nat → Int64} {b kk kf1 k : Nat} (h1 : kk = k + 1) (hS : ∀ q, q < 6 → su1 q = pm_sv kd wd sr od sk b kk q) (hK : kf1 = pm_kf kd b (b - kk)) (hE : ∀ q, q < 6 → ke1 q = pm_sv kd wd sr od sk b kf1 q) :
    ∀ q, q < 6 → pm_S (pm_wh kd od k) su1 ke1 q = pm_sv kd wd sr od sk b (pr_bg kd od b k) q := by
  intro q hq
  unfold pm_S pr_bg
  by_cases hw : pm_wh kd od k
  · rw [if_pos hw, if_pos hw, hS q hq, h1]
  · rw [if_neg hw, if_neg hw, hE q hq, hK, h1, show b - (k + 1) = b - 1 - k by omega]
theorem pl_congr {S S' : Nat → Int64} {si : Nat → Int32} {ad be : Int64} {mw : Int32} (h : ∀ q, q < 6 → S q = S' q) : pl_B S si ad be mw = pl_B S' si ad be mw ∧ pl_C S si ad be mw = pl_C S' si ad be mw ∧ pl_O S si ad be mw = pl_O S' si ad be mw := by
  have h0 := h 0 (by decide)
  have h1 := h 1 (by decide)
  have h2 := h 2 (by decide)
  have h3 := h 3 (by decide)
  have h4 := h 4 (by decide)
  have h5 := h 5 (by decide)
  unfold pl_B pl_C pl_O pm_ex pm_pl pm_fa pm_le
  rw [h0, h1, h2, h3, h4, h5]
  exact ⟨rfl, rfl, rfl⟩
/-- how the line from the item k (a break) to the break b fits, as line n -/
def pr_B (kd wd sr od sk me si : Nat → Int32) (cn mn b k n : Nat) : Int32 := pl_B (pm_sv kd wd sr od sk b (pr_bg kd od b k)) si (if pm_hy kd cn b then (sr b).toInt64 else 0) (if pm_hy kd cn k then (sk k).toInt64 else 0) (me (pm_mi n mn))
def pr_C (kd wd sr od sk me si : Nat → Int32) (cn mn b k n : Nat) : Nat := pl_C (pm_sv kd wd sr od sk b (pr_bg kd od b k)) si (if pm_hy kd cn b then (sr b).toInt64 else 0) (if pm_hy kd cn k then (sk k).toInt64 else 0) (me (pm_mi n mn))
def pr_O (kd wd sr od sk me si : Nat → Int32) (cn mn b k n : Nat) : Int64 := pl_O (pm_sv kd wd sr od sk b (pr_bg kd od b k)) si (if pm_hy kd cn b then (sr b).toInt64 else 0) (if pm_hy kd cn k then (sk k).toInt64 else 0) (me (pm_mi n mn))
def pr_D (kd wd sr od sk ru me si : Nat → Int32) (cn mn b k n was : Nat) : Int64 := pm_cost ru (pr_B kd wd sr od sk me si cn mn b k n) (pm_pen kd wd od ru cn b) (pr_C kd wd sr od sk me si cn mn b k n) was (pm_hy kd cn b) (pm_hy kd cn k) (b = cn)
/-- the same for the first line -/
def pf_B (kd wd sr od sk me si : Nat → Int32) (cn mn b : Nat) : Int32 := pl_B (pm_sv kd wd sr od sk b 0) si (if pm_hy kd cn b then (sr b).toInt64 else 0) 0 (me (pm_mi 1 mn))
def pf_C (kd wd sr od sk me si : Nat → Int32) (cn mn b : Nat) : Nat := pl_C (pm_sv kd wd sr od sk b 0) si (if pm_hy kd cn b then (sr b).toInt64 else 0) 0 (me (pm_mi 1 mn))
def pf_O (kd wd sr od sk me si : Nat → Int32) (cn mn b : Nat) : Int64 := pl_O (pm_sv kd wd sr od sk b 0) si (if pm_hy kd cn b then (sr b).toInt64 else 0) 0 (me (pm_mi 1 mn))
def pf_D (kd wd sr od sk ru me si : Nat → Int32) (cn mn b : Nat) : Int64 := pm_cost ru (pf_B kd wd sr od sk me si cn mn b) (pm_pen kd wd od ru cn b) (pf_C kd wd sr od sk me si cn mn b) 2 (pm_hy kd cn b) False (b = cn)
abbrev pt_R : Type := Nat → Option pt_C
/-- the row of break b, with one break more before it: the x-th, at the item k -/
def pr_f (kd wd sr od sk ru me si : Nat → Int32) (cn mn ps : Nat) (br : Nat → Nat) (pv : Nat → Nat → Option (Int64 × Int32 × Int64)) (b n x : Nat) (R : pt_R) : pt_R := fun c =>
  if 1 < n then (if pm_ok ru ps (pr_B kd wd sr od sk me si cn mn b (br x) n) (pr_O kd wd sr od sk me si cn mn b (br x) n) then pt_go ps (pr_C kd wd sr od sk me si cn mn b (br x) n) (pm_ab (pr_B kd wd sr od sk me si cn mn b (br x) n) (ru 1)) x (pr_O kd wd sr od sk me si cn mn b (br x) n) (pr_D kd wd sr od sk ru me si cn mn b (br x) n) (pv x) R 4 c else R c) else R c
def pt_dn (f : Nat → pt_R → pt_R) (pe : Nat → Int32) : Nat → pt_R → pt_R
  | 0, R => R
  | m + 1, R => if (-10000) < pe m then pt_dn f pe m (f m R) else f m R
theorem pt_go_congr {ps lc ab i : Nat} {lo : Int64} {cost : Nat → Int64} {p1 p2 : Nat → Option (Int64 × Int32 × Int64)} {R1 R2 : pt_R} {c : Nat} (hR : R1 c = R2 c) : ∀ m, (∀ k, k < m → p1 k = p2 k) → pt_go ps lc ab i lo cost p1 R1 m c = pt_go ps lc ab i lo cost p2 R2 m c
  | 0, _ => hR
  | m + 1, hp => by
    have ih := pt_go_congr (ps := ps) (lc := lc) (ab := ab) (i := i) (lo := lo) (cost := cost) hR m (fun k hk => hp k (Nat.lt_succ_of_lt hk))
    have hm := hp m (Nat.lt_succ_self m)
    cases h : p2 m with
    | none => rw [pt_go_n (by rw [hm, h]), pt_go_n h, ih]
    | some x => rw [pt_go_s (by rw [hm, h]), pt_go_s h, ih]
theorem pr_f_congr {kd wd sr od sk ru me si : Nat → Int32} {cn mn ps : Nat} {br : Nat → Nat} {pv : Nat → Nat → Option (Int64 × Int32 × Int64)} {b n x c : Nat} {R1 R2 : pt_R} (h : R1 c = R2 c) : pr_f kd wd sr od sk ru me si cn mn ps br pv b n x R1 c = pr_f kd wd sr od sk ru me si cn mn ps br pv b n x R2 c := by
  unfold pr_f
  rw [pt_go_congr h 4 (fun _ _ => rfl), h]
theorem pt_dn_congr {f : Nat → pt_R → pt_R} {pe : Nat → Int32} {c : Nat} (hf : ∀ x R1 R2, R1 c = R2 c → f x R1 c = f x R2 c) : ∀ m (R1 R2 : pt_R), R1 c = R2 c → pt_dn f pe m R1 c = pt_dn f pe m R2 c
  | 0, _, _, h => h
  | m + 1, R1, R2, h => by
    unfold pt_dn
    by_cases hp : (-10000) < pe m
    · rw [if_pos hp, if_pos hp]
      exact pt_dn_congr hf m _ _ (hf m R1 R2 h)
    · rw [if_neg hp, if_neg hp]
      exact hf m R1 R2 h
/-- Int32 numbers one below a natural number -/
abbrev kp_ (x : Nat) : Int32 := nI x - nI 1
theorem kp_nat {x : Nat} (h : 1 ≤ x) : kp_ x = nI (x - 1) := pk_sub h
theorem kp_dec (x : Nat) : nI x + Int32.ofInt (-1) = kp_ x := by
  unfold kp_
  rw [show Int32.ofInt (-1) = -nI 1 from by decide, ← Int32.sub_eq_add_neg]
theorem kp_neg {x : Nat} (h : x < 2 ^ 31) : kp_ x < 0 ↔ x = 0 := by
  constructor
  · intro q
    rcases Nat.eq_zero_or_pos x with z | z
    · exact z
    · rw [kp_nat z] at q
      exact absurd q (nI_pos (by omega))
  · intro q; subst q; decide
