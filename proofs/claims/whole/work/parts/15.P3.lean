/-! what reach needs of the rows -/
theorem pr_clear {j n : Nat} {iz z0 z1 z2 z3 : Nat → Int32} {ou : Nat → Int64} {ba : Nat → Int32} {de bc k0 : Nat → Int64} (e0 : z0 = upd iz (1608 * (n % 2) + 4 * j + 0) (nI 0)) (e1 : z1 = upd z0 (1608 * (n % 2) + 4 * j + 1) (nI 0)) (e2 : z2 = upd z1 (1608 * (n % 2) + 4 * j + 2) (nI 0)) (e3 : z3 = upd z2 (1608 * (n % 2) + 4 * j + 3) (nI 0)) (ek : k0 = vp_updL bc (402 * n + j) 0) :
    (∀ c, c < 4 → pt_tb z3 ou ba de k0 n j c = none) ∧ pt_fr j n iz ou ba de bc z3 ou ba de k0 := by
  refine ⟨fun c hc => ?_, fun a ha => ?_, fun q hq => ?_⟩
  · have hz : z3 (pm_at j n c) = 0 := by
      subst e3; subst e2; subst e1; subst e0
      unfold pm_at
      rcases (show c = 0 ∨ c = 1 ∨ c = 2 ∨ c = 3 by omega) with h | h | h | h <;> subst h <;> simp [upd] <;> exact nI_0
    unfold pt_tb
    rw [if_pos hz]
  · have h0 := ha 0 (by decide)
    have h1 := ha 1 (by decide)
    have h2 := ha 2 (by decide)
    have h3 := ha 3 (by decide)
    unfold pm_at at h0 h1 h2 h3
    subst e3; subst e2; subst e1; subst e0
    simp only [upd, h0, h1, h2, h3, if_false, and_self]
  · subst ek
    unfold pm_pc at hq
    simp only [pm_upd, hq, if_false]
theorem pr_pv_fr {j n x : Nat} {iz z1 : Nat → Int32} {ou o1 : Nat → Int64} {ba b1 : Nat → Int32} {de d1 bc k1 : Nat → Int64} (h : pt_fr j n iz ou ba de bc z1 o1 b1 d1 k1) (hx : x < j) (hj : j < 400) : ∀ c, c < 4 → pt_pv z1 o1 b1 d1 (1608 * ((n + 1) % 2) + 4 * x) c = pt_pv iz ou ba de (1608 * ((n + 1) % 2) + 4 * x) c := by
  intro c hc
  obtain ⟨h1, h2, h3, h4⟩ := h.1 (1608 * ((n + 1) % 2) + 4 * x + c) (fun y hy => by unfold pm_at; omega)
  unfold pt_pv
  rw [h1, h2, h3, h4]
theorem pr_goF {kd wd sr od sk ru me si : Nat → Int32} {cn mn ps : Nat} {br : Nat → Nat} {pv : Nat → Nat → Option (Int64 × Int32 × Int64)} {b n x : Nat} {su ke : Nat → Int64} {R2 R1 : pt_R} {p1 : Nat → Option (Int64 × Int32 × Int64)} (hn : 1 < n) (hS : ∀ q, q < 6 → pm_S (pm_wh kd od (br x)) su ke q = pm_sv kd wd sr od sk b (pr_bg kd od b (br x)) q) (hpv : ∀ c, c < 4 → p1 c = pv x c)
    (h : ∀ c, c < 4 → R2 c = if pm_ok ru ps (pl_B (pm_S (pm_wh kd od (br x)) su ke) si (if pm_hy kd cn b then (sr b).toInt64 else 0) (if pm_hy kd cn (br x) then (sk (br x)).toInt64 else 0) (me (pm_mi n mn))) (pl_O (pm_S (pm_wh kd od (br x)) su ke) si (if pm_hy kd cn b then (sr b).toInt64 else 0) (if pm_hy kd cn (br x) then (sk (br x)).toInt64 else 0) (me (pm_mi n mn))) then pt_go ps (pl_C (pm_S (pm_wh kd od (br x)) su ke) si (if pm_hy kd cn b then (sr b).toInt64 else 0) (if pm_hy kd cn (br x) then (sk (br x)).toInt64 else 0) (me (pm_mi n mn))) (pm_ab (pl_B (pm_S (pm_wh kd od (br x)) su ke) si (if pm_hy kd cn b then (sr b).toInt64 else 0) (if pm_hy kd cn (br x) then (sk (br x)).toInt64 else 0) (me (pm_mi n mn))) (ru 1)) x (pl_O (pm_S (pm_wh kd od (br x)) su ke) si (if pm_hy kd cn b then (sr b).toInt64 else 0) (if pm_hy kd cn (br x) then (sk (br x)).toInt64 else 0) (me (pm_mi n mn))) (fun x2 => pm_cost ru (pl_B (pm_S (pm_wh kd od (br x)) su ke) si (if pm_hy kd cn b then (sr b).toInt64 else 0) (if pm_hy kd cn (br x) then (sk (br x)).toInt64 else 0) (me (pm_mi n mn))) (pm_pen kd wd od ru cn b) (pl_C (pm_S (pm_wh kd od (br x)) su ke) si (if pm_hy kd cn b then (sr b).toInt64 else 0) (if pm_hy kd cn (br x) then (sk (br x)).toInt64 else 0) (me (pm_mi n mn))) x2 (pm_hy kd cn b) (pm_hy kd cn (br x)) (b = cn)) p1 R1 4 c else R1 c) :
    ∀ c, c < 4 → R2 c = pr_f kd wd sr od sk ru me si cn mn ps br pv b n x R1 c := by
  intro c hc
  obtain ⟨eB, eC, eO⟩ := pl_congr (si := si) (ad := if pm_hy kd cn b then (sr b).toInt64 else 0) (be := if pm_hy kd cn (br x) then (sk (br x)).toInt64 else 0) (mw := me (pm_mi n mn)) hS
  rw [h c hc, eB, eC, eO, pt_go_congr (R2 := R1) rfl 4 hpv]
  unfold pr_f
  rw [if_pos hn]
  rfl
theorem pr_f_1 {kd wd sr od sk ru me si : Nat → Int32} {cn mn ps : Nat} {br : Nat → Nat} {pv : Nat → Nat → Option (Int64 × Int32 × Int64)} {b n x c : Nat} {R : pt_R} (h : ¬ 1 < n) : pr_f kd wd sr od sk ru me si cn mn ps br pv b n x R c = R c := by
  unfold pr_f
  rw [if_neg h]
theorem pr_dn_1 {kd wd sr od sk ru me si : Nat → Int32} {cn mn ps : Nat} {br : Nat → Nat} {pv : Nat → Nat → Option (Int64 × Int32 × Int64)} {b n c : Nat} {pe : Nat → Int32} (h : ¬ 1 < n) : ∀ m (R : pt_R), pt_dn (pr_f kd wd sr od sk ru me si cn mn ps br pv b n) pe m R c = R c
  | 0, _ => rfl
  | m + 1, R => by
    unfold pt_dn
    split
    · rw [pr_dn_1 h m, pr_f_1 h]
    · rw [pr_f_1 h]
/-- a break is passed that forces nothing, or one that does -/
theorem pr_dn_go {f : Nat → pt_R → pt_R} {pe : Nat → Int32} {c m : Nat} {R R2 : pt_R} (hf : ∀ x R1 R2, R1 c = R2 c → f x R1 c = f x R2 c) (hp : (-10000) < pe m) (h : R2 c = f m R c) : pt_dn f pe m R2 c = pt_dn f pe (m + 1) R c := by
  show _ = (if (-10000) < pe m then pt_dn f pe m (f m R) else f m R) c
  rw [if_pos hp]
  exact pt_dn_congr hf m _ _ h
theorem pr_dn_end {f : Nat → pt_R → pt_R} {pe : Nat → Int32} {c m : Nat} {R R2 : pt_R} (hp : ¬ (-10000) < pe m) (h : R2 c = f m R c) : R2 c = pt_dn f pe (m + 1) R c := by
  show _ = (if (-10000) < pe m then pt_dn f pe m (f m R) else f m R) c
  rw [if_neg hp]
  exact h
def pf_row (kd wd sr od sk ru me si : Nat → Int32) (cn mn ps b : Nat) : pt_R := fun c => if pm_ok ru ps (pf_B kd wd sr od sk me si cn mn b) (pf_O kd wd sr od sk me si cn mn b) then (if c = pf_C kd wd sr od sk me si cn mn b then some (pf_O kd wd sr od sk me si cn mn b, nI (pm_ab (pf_B kd wd sr od sk me si cn mn b) (ru 1)), pf_D kd wd sr od sk ru me si cn mn b, nI 5000) else none) else none
