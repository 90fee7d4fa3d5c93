/-! what made needs -/
section PG3
variable {kd wd sr od sk ru me si : Nat → Int32} {cn mn ps : Nat} {br : Nat → Nat} {bk asked : Nat} {s0 : pe_S}
theorem pg_fin {n : Nat} {st : pe_S} {bc : Nat → Int64} (hn1 : 1 ≤ n) (hnb : n ≤ bk + 1) (hb1 : 1 ≤ bk) (hst : st = pg_E kd wd sr od sk ru me si cn mn ps br bk asked s0 (n - 1)) (hbk : ∀ m, 1 ≤ m → m < n → ∀ x, x < bk → ∀ c, c < 4 → ∀ y, pg_T kd wd sr od sk ru me si cn mn ps br m x c = some y → pm_bk (bc (pm_pc x m)) c = y.2.2.2)
    (hx : n = bk + 1 ∨ (¬ asked = 0 ∧ n = asked + 1) ∨ (2 ≤ n ∧ ∀ x, x < bk → ∀ c, c < 4 → pg_T kd wd sr od sk ru me si cn mn ps br (n - 1) x c = none)) :
    st = pg_E kd wd sr od sk ru me si cn mn ps br bk asked s0 bk ∧ ∀ m, 1 ≤ m → m ≤ bk → (asked = 0 ∨ m ≤ asked) → ∀ x, x < bk → ∀ c, c < 4 → ∀ y, pg_T kd wd sr od sk ru me si cn mn ps br m x c = some y → pm_bk (bc (pm_pc x m)) c = y.2.2.2 := by
  rcases hx with h | ⟨ha, h⟩ | ⟨h2, h⟩
  · refine ⟨by rw [hst, show n - 1 = bk by omega], fun m h1 h2 _ => hbk m h1 (by omega)⟩
  · refine ⟨?_, fun m h1 h2 h3 => hbk m h1 (by omega)⟩
    rw [hst]
    have := pg_E_past (kd := kd) (wd := wd) (sr := sr) (od := od) (sk := sk) (ru := ru) (me := me) (si := si) (cn := cn) (mn := mn) (ps := ps) (br := br) (bk := bk) (asked := asked) (s0 := s0) (n := n - 1) ha (by omega) (bk - (n - 1))
    rw [show n - 1 + (bk - (n - 1)) = bk by omega] at this
    exact this.symm
  · refine ⟨?_, fun m h1 h3 _ x hx c hc y hy => ?_⟩
    · rw [hst]
      have := pg_E_none (kd := kd) (wd := wd) (sr := sr) (od := od) (sk := sk) (ru := ru) (me := me) (si := si) (cn := cn) (mn := mn) (ps := ps) (br := br) (bk := bk) (asked := asked) (s0 := s0) (n := n - 1) (by omega) hb1 h (bk - (n - 1))
      rw [show n - 1 + (bk - (n - 1)) = bk by omega] at this
      exact this.symm
    · rcases Nat.lt_or_ge m n with q | q
      · exact hbk m h1 q x hx c hc y hy
      · have := pg_nones (n := n - 1) (by omega) h (m - (n - 1)) x hx c hc
        rw [show n - 1 + (m - (n - 1)) = m by omega, hy] at this
        cases this
theorem pg_E_step {n : Nat} {st st2 : pe_S} {E : Nat → Option (Int64 × Int32 × Int64)} (hn : 1 ≤ n) (hd : asked = 0 ∨ n = asked) (hst : st = pg_E kd wd sr od sk ru me si cn mn ps br bk asked s0 (n - 1)) (h : st2 = pe_go ps n E st 4) (hE : ∀ c, c < 4 → E c = pg_v (pg_T kd wd sr od sk ru me si cn mn ps br n (bk - 1) c)) : st2 = pg_E kd wd sr od sk ru me si cn mn ps br bk asked s0 n := by
  obtain ⟨m, rfl⟩ : ∃ m, n = m + 1 := ⟨n - 1, by omega⟩
  rw [h, hst, pe_go_congr 4 hE]
  show _ = (if asked = 0 ∨ m + 1 = asked then _ else _)
  rw [if_pos hd]
  rfl
theorem pg_E_skip {n : Nat} {st : pe_S} (hn : 1 ≤ n) (hd : ¬ (asked = 0 ∨ n = asked)) (hst : st = pg_E kd wd sr od sk ru me si cn mn ps br bk asked s0 (n - 1)) : st = pg_E kd wd sr od sk ru me si cn mn ps br bk asked s0 n := by
  obtain ⟨m, rfl⟩ : ∃ m, n = m + 1 := ⟨n - 1, by omega⟩
  rw [hst]
  show _ = (if asked = 0 ∨ m + 1 = asked then _ else _)
  rw [if_neg hd]
  rfl
theorem pe_go_le {n : Nat} {E : Nat → Option (Int64 × Int32 × Int64)} {s : pe_S} (hn : n ≤ 400) (hs : s.1 ≤ 400) : ∀ m, (pe_go ps n E s m).1 ≤ 400
  | 0 => hs
  | m + 1 => by
    have ih := pe_go_le (E := E) hn hs m
    unfold pe_go
    split
    · exact ih
    · split
      · exact hn
      · exact ih
theorem pg_all0 {iz : Nat → Int32} {ou : Nat → Int64} {ba : Nat → Int32} {de bc : Nat → Int64} {n : Nat} (h : ∀ x, x < 4 * bk → iz (1608 * (n % 2) + x) = 0) (hr : ∀ x, x < bk → ∀ c, c < 4 → pt_tb iz ou ba de bc n x c = pg_T kd wd sr od sk ru me si cn mn ps br n x c) : ∀ x, x < bk → ∀ c, c < 4 → pg_T kd wd sr od sk ru me si cn mn ps br n x c = none := by
  intro x hx c hc
  rw [← hr x hx c hc]
  unfold pt_tb pm_at
  have := h (4 * x + c) (by omega)
  rw [← Nat.add_assoc] at this
  rw [if_pos this]
theorem pg_back {iz : Nat → Int32} {ou : Nat → Int64} {ba : Nat → Int32} {de bc : Nat → Int64} {n : Nat} (hbk : ∀ m, 1 ≤ m → m < n → ∀ x, x < bk → ∀ c, c < 4 → ∀ y, pg_T kd wd sr od sk ru me si cn mn ps br m x c = some y → pm_bk (bc (pm_pc x m)) c = y.2.2.2) (hr : ∀ x, x < bk → ∀ c, c < 4 → pt_tb iz ou ba de bc n x c = pg_T kd wd sr od sk ru me si cn mn ps br n x c) : ∀ m, 1 ≤ m → m < n + 1 → ∀ x, x < bk → ∀ c, c < 4 → ∀ y, pg_T kd wd sr od sk ru me si cn mn ps br m x c = some y → pm_bk (bc (pm_pc x m)) c = y.2.2.2 := by
  intro m h1 h2 x hx c hc y hy
  rcases Nat.lt_or_ge m n with q | q
  · exact hbk m h1 q x hx c hc y hy
  · have e : m = n := by omega
    subst e
    exact pg_tb_bk ((hr x hx c hc).trans hy)
/-- a row more of the layer -/
theorem pg_inner {n j : Nat} {iz iz2 : Nat → Int32} {ou ou2 : Nat → Int64} {ba ba2 : Nat → Int32} {de de2 bc bc2 : Nat → Int64} (hj : j < bk) (hb : bk ≤ 400) (hn1 : 1 ≤ n) (hF : pt_fr j n iz ou ba de bc iz2 ou2 ba2 de2 bc2) (hnew : ∀ c, c < 4 → pt_tb iz2 ou2 ba2 de2 bc2 n j c = pg_T kd wd sr od sk ru me si cn mn ps br n j c)
    (hrw : ∀ x, x < j → ∀ c, c < 4 → pt_tb iz ou ba de bc n x c = pg_T kd wd sr od sk ru me si cn mn ps br n x c) (hrow : 2 ≤ n → ∀ x, x < bk → ∀ c, c < 4 → pt_tb iz ou ba de bc (n - 1) x c = pg_T kd wd sr od sk ru me si cn mn ps br (n - 1) x c) (hbk : ∀ m, 1 ≤ m → m < n → ∀ x, x < bk → ∀ c, c < 4 → ∀ y, pg_T kd wd sr od sk ru me si cn mn ps br m x c = some y → pm_bk (bc (pm_pc x m)) c = y.2.2.2) :
    (∀ x, x < j + 1 → ∀ c, c < 4 → pt_tb iz2 ou2 ba2 de2 bc2 n x c = pg_T kd wd sr od sk ru me si cn mn ps br n x c) ∧ (2 ≤ n → ∀ x, x < bk → ∀ c, c < 4 → pt_tb iz2 ou2 ba2 de2 bc2 (n - 1) x c = pg_T kd wd sr od sk ru me si cn mn ps br (n - 1) x c) ∧ (∀ m, 1 ≤ m → m < n → ∀ x, x < bk → ∀ c, c < 4 → ∀ y, pg_T kd wd sr od sk ru me si cn mn ps br m x c = some y → pm_bk (bc2 (pm_pc x m)) c = y.2.2.2) := by
  refine ⟨fun x hx c hc => ?_, fun h2 x hx c hc => ?_, fun m h1 h2 x hx c hc y hy => ?_⟩
  · by_cases hxj : x = j
    · subst hxj; exact hnew c hc
    · rw [pg_tb_fr hF (by omega) (by omega) hc (Or.inl ⟨rfl, hxj⟩)]
      exact hrw x (by omega) c hc
  · rw [pg_tb_fr hF (by omega) (by omega) hc (Or.inr (by omega))]
    exact hrow h2 x hx c hc
  · rw [pg_bc_fr hF (by omega) (by omega) h2]
    exact hbk m h1 h2 x hx c hc y hy
end PG3
