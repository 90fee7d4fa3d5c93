theorem pr_fc {kd wd sr od sk ru me si : Nat → Int32} {cn mn ps : Nat} {br : Nat → Nat} {pv : Nat → Nat → Option (Int64 × Int32 × Int64)} {b n c : Nat} : ∀ (x : Nat) (R1 R2 : pt_R), R1 c = R2 c → pr_f kd wd sr od sk ru me si cn mn ps br pv b n x R1 c = pr_f kd wd sr od sk ru me si cn mn ps br pv b n x R2 c := fun x R1 R2 h => pr_f_congr (x := x) (R1 := R1) (R2 := R2) h
theorem pr_T0 {kd wd sr od sk ru me si : Nat → Int32} {cn mn ps : Nat} {br : Nat → Nat} {pv : Nat → Nat → Option (Int64 × Int32 × Int64)} {b n j : Nat} {pe : Nat → Int32} {R : pt_R} (h : ∀ c, c < 4 → R c = none) : ∀ c, c < 4 → pt_dn (pr_f kd wd sr od sk ru me si cn mn ps br pv b n) pe j R c = pt_dn (pr_f kd wd sr od sk ru me si cn mn ps br pv b n) pe j (fun _ => none) c := fun c hc => pt_dn_congr pr_fc j R (fun _ => none) (h c hc)
theorem pr_T1 {kd wd sr od sk ru me si : Nat → Int32} {cn mn ps : Nat} {br : Nat → Nat} {pv : Nat → Nat → Option (Int64 × Int32 × Int64)} {b n ii : Nat} {pe : Nat → Int32} {R R2 T : pt_R} (hi : 1 ≤ ii) (hp : (-10000) < pe (ii - 1)) (h : ∀ c, c < 4 → R2 c = pr_f kd wd sr od sk ru me si cn mn ps br pv b n (ii - 1) R c) (hT : ∀ c, c < 4 → pt_dn (pr_f kd wd sr od sk ru me si cn mn ps br pv b n) pe ii R c = T c) : ∀ c, c < 4 → pt_dn (pr_f kd wd sr od sk ru me si cn mn ps br pv b n) pe (ii - 1) R2 c = T c := fun c hc => by
  rw [← hT c hc, pr_dn_go (R := R) pr_fc hp (h c hc), show ii - 1 + 1 = ii by omega]
theorem pr_T2 {kd wd sr od sk ru me si : Nat → Int32} {cn mn ps : Nat} {br : Nat → Nat} {pv : Nat → Nat → Option (Int64 × Int32 × Int64)} {b n ii : Nat} {pe : Nat → Int32} {R R2 T : pt_R} (hi : 1 ≤ ii) (hp : ¬ (-10000) < pe (ii - 1)) (h : ∀ c, c < 4 → R2 c = pr_f kd wd sr od sk ru me si cn mn ps br pv b n (ii - 1) R c) (hT : ∀ c, c < 4 → pt_dn (pr_f kd wd sr od sk ru me si cn mn ps br pv b n) pe ii R c = T c) : ∀ c, c < 4 → R2 c = T c := fun c hc => by
  rw [← hT c hc, pr_dn_end (R := R) hp (h c hc), show ii - 1 + 1 = ii by omega]
/-- what is kept at the end of reach for a first line -/
theorem pr_first {kd wd sr od sk ru me si : Nat → Int32} {cn mn ps b lc : Nat} {lb : Int32} {lo : Int64} {R R2 : pt_R} (eB : lb = pf_B kd wd sr od sk me si cn mn b) (eC : lc = pf_C kd wd sr od sk me si cn mn b) (eO : lo = pf_O kd wd sr od sk me si cn mn b) (hok : pm_ok ru ps lb lo) (hR : ∀ c, c < 4 → R c = none)
    (h : ∀ c, c < 4 → R2 c = if c = lc then pt_kp ps (R c) (lo, nI (pm_ab lb (ru 1)), pm_cost ru lb (pm_pen kd wd od ru cn b) lc 2 (pm_hy kd cn b) False (b = cn), nI 5000) else R c) : ∀ c, c < 4 → R2 c = pf_row kd wd sr od sk ru me si cn mn ps b c := by
  intro c hc
  subst eB; subst eC; subst eO
  rw [h c hc, hR c hc]
  unfold pf_row
  rw [if_pos hok]
  rfl
theorem pr_firstN {kd wd sr od sk ru me si : Nat → Int32} {cn mn ps b : Nat} {lb : Int32} {lo : Int64} {R : pt_R} (eB : lb = pf_B kd wd sr od sk me si cn mn b) (eO : lo = pf_O kd wd sr od sk me si cn mn b) (hok : ¬ pm_ok ru ps lb lo) (hR : ∀ c, c < 4 → R c = none) : ∀ c, c < 4 → R c = pf_row kd wd sr od sk ru me si cn mn ps b c := by
  intro c hc
  subst eB; subst eO
  rw [hR c hc]
  unfold pf_row
  rw [if_neg hok]
