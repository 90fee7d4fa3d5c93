/-! the reference's whole table: n lines up to the j-th break, the last of class c -/
def pg_v (y : Option pt_C) : Option (Int64 × Int32 × Int64) := match y with
  | none => none
  | some z => some (z.1, z.2.1, z.2.2.1)
theorem pg_pv_tb {iz : Nat → Int32} {ou : Nat → Int64} {ba : Nat → Int32} {de bc : Nat → Int64} {a m x c : Nat} (h : a = 1608 * (m % 2) + 4 * x) : pt_pv iz ou ba de a c = pg_v (pt_tb iz ou ba de bc m x c) := by
  subst h
  unfold pt_pv pt_tb pm_at
  split <;> rfl
def pg_T (kd wd sr od sk ru me si : Nat → Int32) (cn mn ps : Nat) (br : Nat → Nat) : Nat → Nat → pt_R
  | 0 => fun _ _ => none
  | n + 1 => fun j => if n = 0 then (if ∀ x, x < j → (-10000) < pm_pen kd wd od ru cn (br x) then pf_row kd wd sr od sk ru me si cn mn ps (br j) else fun _ => none) else pt_dn (pr_f kd wd sr od sk ru me si cn mn ps br (fun x c => pg_v (pg_T kd wd sr od sk ru me si cn mn ps br n x c)) (br j) (n + 1)) (fun x => pm_pen kd wd od ru cn (br x)) j (fun _ => none)
section PG
variable {kd wd sr od sk ru me si : Nat → Int32} {cn mn ps : Nat} {br : Nat → Nat}
theorem pr_f_pv {pv1 pv2 : Nat → Nat → Option (Int64 × Int32 × Int64)} {b n x c : Nat} {R : pt_R} (h : ∀ k, k < 4 → pv1 x k = pv2 x k) : pr_f kd wd sr od sk ru me si cn mn ps br pv1 b n x R c = pr_f kd wd sr od sk ru me si cn mn ps br pv2 b n x R c := by
  unfold pr_f
  rw [pt_go_congr (R2 := R) rfl 4 h]
theorem pt_dn_pv {pv1 pv2 : Nat → Nat → Option (Int64 × Int32 × Int64)} {b n c : Nat} {pe : Nat → Int32} : ∀ (m : Nat) (R : pt_R), (∀ x, x < m → ∀ k, k < 4 → pv1 x k = pv2 x k) → pt_dn (pr_f kd wd sr od sk ru me si cn mn ps br pv1 b n) pe m R c = pt_dn (pr_f kd wd sr od sk ru me si cn mn ps br pv2 b n) pe m R c
  | 0, _, _ => rfl
  | m + 1, R, h => by
    unfold pt_dn
    have hm : pr_f kd wd sr od sk ru me si cn mn ps br pv1 b n m R c = pr_f kd wd sr od sk ru me si cn mn ps br pv2 b n m R c := pr_f_pv (h m (Nat.lt_succ_self m))
    by_cases hp : (-10000) < pe m
    · rw [if_pos hp, if_pos hp, pt_dn_pv m _ (fun x hx => h x (Nat.lt_succ_of_lt hx))]
      exact pt_dn_congr pr_fc m _ _ hm
    · rw [if_neg hp, if_neg hp]
      exact hm
theorem pt_dn_none {pv : Nat → Nat → Option (Int64 × Int32 × Int64)} {b n c : Nat} {pe : Nat → Int32} : ∀ (m : Nat) (R : pt_R), (∀ x, x < m → ∀ k, k < 4 → pv x k = none) → pt_dn (pr_f kd wd sr od sk ru me si cn mn ps br pv b n) pe m R c = R c
  | 0, _, _ => rfl
  | m + 1, R, h => by
    have hm : pr_f kd wd sr od sk ru me si cn mn ps br pv b n m R c = R c := by
      unfold pr_f
      rw [pt_go_0 (h m (Nat.lt_succ_self m)), ite_self, ite_self]
    unfold pt_dn
    by_cases hp : (-10000) < pe m
    · rw [if_pos hp, pt_dn_none m _ (fun x hx => h x (Nat.lt_succ_of_lt hx))]
      exact hm
    · rw [if_neg hp]
      exact hm
/-- what reach leaves is the table's row -/
theorem pg_row {iz : Nat → Int32} {ou : Nat → Int64} {ba : Nat → Int32} {de bc : Nat → Int64} {n j : Nat} {R2 : pt_R} (hn1 : 1 ≤ n) (hprev : 2 ≤ n → ∀ x, x < j → ∀ c, c < 4 → pt_tb iz ou ba de bc (n - 1) x c = pg_T kd wd sr od sk ru me si cn mn ps br (n - 1) x c)
    (h1 : ¬ n = 1 → ∀ c, c < 4 → R2 c = pt_dn (pr_f kd wd sr od sk ru me si cn mn ps br (fun x2 => pt_pv iz ou ba de (1608 * ((n + 1) % 2) + 4 * x2)) (br j) n) (fun x2 => pm_pen kd wd od ru cn (br x2)) j (fun _ => none) c)
    (h2 : n = 1 → (∀ x, x < j → (-10000) < pm_pen kd wd od ru cn (br x)) → ∀ c, c < 4 → R2 c = pf_row kd wd sr od sk ru me si cn mn ps (br j) c)
    (h3 : n = 1 → (∃ x, x < j ∧ ¬ (-10000) < pm_pen kd wd od ru cn (br x)) → ∀ c, c < 4 → R2 c = none) : ∀ c, c < 4 → R2 c = pg_T kd wd sr od sk ru me si cn mn ps br n j c := by
  intro c hc
  obtain ⟨m, rfl⟩ : ∃ m, n = m + 1 := ⟨n - 1, by omega⟩
  by_cases hm : m = 0
  · subst hm
    simp only [pg_T, if_true]
    by_cases ha : ∀ x, x < j → (-10000) < pm_pen kd wd od ru cn (br x)
    · rw [if_pos ha]
      exact h2 rfl ha c hc
    · rw [if_neg ha]
      have hx : ∃ x, x < j ∧ ¬ (-10000) < pm_pen kd wd od ru cn (br x) := Classical.byContradiction (fun q => ha (fun x hx => Classical.byContradiction (fun z => q ⟨x, hx, z⟩)))
      exact h3 rfl hx c hc
  · rw [h1 (by omega) c hc]
    simp only [pg_T, if_neg hm]
    refine pt_dn_pv j _ (fun x hx k hk => ?_)
    rw [pg_pv_tb (bc := bc) (m := m) (show 1608 * ((m + 1 + 1) % 2) + 4 * x = 1608 * (m % 2) + 4 * x by omega)]
    have := hprev (by omega) x hx k hk
    rw [show m + 1 - 1 = m by omega] at this
    rw [this]
theorem pg_none {n B : Nat} (hn : 1 ≤ n) (h : ∀ x, x < B → ∀ c, c < 4 → pg_T kd wd sr od sk ru me si cn mn ps br n x c = none) : ∀ x, x < B → ∀ c, c < 4 → pg_T kd wd sr od sk ru me si cn mn ps br (n + 1) x c = none := by
  intro x hx c hc
  simp only [pg_T, if_neg (show ¬ n = 0 by omega)]
  rw [pt_dn_none x _ (fun y hy k hk => by rw [h y (by omega) k hk]; rfl)]
theorem pg_nones {n B : Nat} (hn : 1 ≤ n) (h : ∀ x, x < B → ∀ c, c < 4 → pg_T kd wd sr od sk ru me si cn mn ps br n x c = none) : ∀ d x, x < B → ∀ c, c < 4 → pg_T kd wd sr od sk ru me si cn mn ps br (n + d) x c = none
  | 0 => h
  | d + 1 => pg_none (n := n + d) (by omega) (pg_nones hn h d)
theorem pe_go_congr {n : Nat} {E1 E2 : Nat → Option (Int64 × Int32 × Int64)} {s0 : pe_S} : ∀ m, (∀ c, c < m → E1 c = E2 c) → pe_go ps n E1 s0 m = pe_go ps n E2 s0 m
  | 0, _ => rfl
  | m + 1, h => by
    have ih := pe_go_congr (n := n) (s0 := s0) m (fun c hc => h c (Nat.lt_succ_of_lt hc))
    have hm := h m (Nat.lt_succ_self m)
    simp only [pe_go, hm, ih]
theorem pe_go_0 {n : Nat} {E : Nat → Option (Int64 × Int32 × Int64)} {s0 : pe_S} : ∀ m, (∀ c, c < m → E c = none) → pe_go ps n E s0 m = s0
  | 0, _ => rfl
  | m + 1, h => by
    simp only [pe_go, h m (Nat.lt_succ_self m)]
    exact pe_go_0 m (fun c hc => h c (Nat.lt_succ_of_lt hc))
end PG
/-- the best at the end, over the numbers of lines 1 .. n -/
def pg_E (kd wd sr od sk ru me si : Nat → Int32) (cn mn ps : Nat) (br : Nat → Nat) (bk asked : Nat) (s0 : pe_S) : Nat → pe_S
  | 0 => s0
  | n + 1 => if asked = 0 ∨ n + 1 = asked then pe_go ps (n + 1) (fun c => pg_v (pg_T kd wd sr od sk ru me si cn mn ps br (n + 1) (bk - 1) c)) (pg_E kd wd sr od sk ru me si cn mn ps br bk asked s0 n) 4 else pg_E kd wd sr od sk ru me si cn mn ps br bk asked s0 n
section PG2
variable {kd wd sr od sk ru me si : Nat → Int32} {cn mn ps : Nat} {br : Nat → Nat} {bk asked : Nat} {s0 : pe_S}
theorem pg_E_none {n : Nat} (hn : 1 ≤ n) (hb : 1 ≤ bk) (h : ∀ x, x < bk → ∀ c, c < 4 → pg_T kd wd sr od sk ru me si cn mn ps br n x c = none) : ∀ d, pg_E kd wd sr od sk ru me si cn mn ps br bk asked s0 (n + d) = pg_E kd wd sr od sk ru me si cn mn ps br bk asked s0 n
  | 0 => rfl
  | d + 1 => by
    refine Eq.trans ?_ (pg_E_none hn hb h d)
    show (if asked = 0 ∨ n + d + 1 = asked then _ else _) = _
    split
    · exact pe_go_0 4 (fun c hc => (congrArg pg_v (pg_nones hn h (d + 1) (bk - 1) (by omega) c hc)).trans rfl)
    · rfl
theorem pg_E_past {n : Nat} (ha : ¬ asked = 0) (h : asked ≤ n) : ∀ d, pg_E kd wd sr od sk ru me si cn mn ps br bk asked s0 (n + d) = pg_E kd wd sr od sk ru me si cn mn ps br bk asked s0 n
  | 0 => rfl
  | d + 1 => by
    show (if asked = 0 ∨ n + d + 1 = asked then _ else _) = _
    rw [if_neg (by omega)]
    exact pg_E_past ha h d
/-- frames: another place of the table stays -/
theorem pg_tb_fr {j n m x c : Nat} {iz iz2 : Nat → Int32} {ou ou2 : Nat → Int64} {ba ba2 : Nat → Int32} {de de2 bc bc2 : Nat → Int64} (h : pt_fr j n iz ou ba de bc iz2 ou2 ba2 de2 bc2) (hj : j < 400) (hx : x < 400) (hc : c < 4) (hd : (m = n ∧ ¬ x = j) ∨ m + 1 = n) : pt_tb iz2 ou2 ba2 de2 bc2 m x c = pt_tb iz ou ba de bc m x c := by
  obtain ⟨h1, h2, h3, h4⟩ := h.1 (pm_at x m c) (fun y hy => by unfold pm_at; omega)
  have h5 := h.2 (pm_pc x m) (by unfold pm_pc; omega)
  unfold pt_tb
  rw [h1, h2, h3, h4, h5]
theorem pg_bc_fr {j n m x : Nat} {iz iz2 : Nat → Int32} {ou ou2 : Nat → Int64} {ba ba2 : Nat → Int32} {de de2 bc bc2 : Nat → Int64} (h : pt_fr j n iz ou ba de bc iz2 ou2 ba2 de2 bc2) (hj : j < 400) (hx : x < 400) (hd : m < n) : bc2 (pm_pc x m) = bc (pm_pc x m) := h.2 _ (by unfold pm_pc; omega)
theorem pg_tb_bk {iz : Nat → Int32} {ou : Nat → Int64} {ba : Nat → Int32} {de bc : Nat → Int64} {n x c : Nat} {y : pt_C} (h : pt_tb iz ou ba de bc n x c = some y) : pm_bk (bc (pm_pc x n)) c = y.2.2.2 := by
  unfold pt_tb at h
  split at h
  · cases h
  · cases h; rfl
end PG2
