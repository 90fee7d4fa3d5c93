/-! the breaks by their numbers; what the best at the end is -/
def pq_p (P : Nat → Prop) [DecidablePred P] : Nat → Nat → Nat
  | 0, _ => 0
  | N + 1, x => if P N ∧ pq_c P N = x then N else pq_p P N x
theorem pq_p_spec {P : Nat → Prop} [DecidablePred P] : ∀ (N x : Nat), x < pq_c P N → P (pq_p P N x) ∧ pq_p P N x < N ∧ pq_c P (pq_p P N x) = x
  | 0, x, h => absurd h (Nat.not_lt_zero _)
  | N + 1, x, h => by
    unfold pq_p
    by_cases hq : P N ∧ pq_c P N = x
    · rw [if_pos hq]
      exact ⟨hq.1, Nat.lt_succ_self N, hq.2⟩
    · rw [if_neg hq]
      have hx : x < pq_c P N := by
        by_cases hp : P N
        · rw [pq_c_s hp] at h
          have : ¬ pq_c P N = x := fun z => hq ⟨hp, z⟩
          omega
        · rw [pq_c_n hp] at h
          exact h
      obtain ⟨h1, h2, h3⟩ := pq_p_spec N x hx
      exact ⟨h1, Nat.lt_succ_of_lt h2, h3⟩
theorem pq_hit {P : Nat → Prop} [DecidablePred P] {N : Nat} {it : Nat → Int32} (h : ∀ k, k < N → P k → it (pq_c P k) = nI k) : ∀ x, x < pq_c P N → it x = nI (pq_p P N x) := fun x hx => by
  obtain ⟨h1, h2, h3⟩ := pq_p_spec N x hx
  have := h _ h2 h1
  rw [h3] at this
  exact this
theorem pq_mono {P : Nat → Prop} [DecidablePred P] {N x y : Nat} (hxy : x < y) (hy : y < pq_c P N) : pq_p P N x < pq_p P N y := by
  obtain ⟨h1, h2, h3⟩ := pq_p_spec (P := P) N x (by omega)
  obtain ⟨g1, g2, g3⟩ := pq_p_spec N y hy
  rcases Nat.lt_or_ge (pq_p P N x) (pq_p P N y) with q | q
  · exact q
  · have := pq_c_mono (P := P) q
    omega
/-- the best of a row: nothing new, or one that is there -/
def pe_is (ps n : Nat) (E : Nat → Option (Int64 × Int32 × Int64)) (s : pe_S) : Prop := s.1 = n ∧ s.2.1 < 4 ∧ E s.2.1 = some (s.2.2.1, s.2.2.2.1, s.2.2.2.2)
theorem pe_go_is {ps n : Nat} {E : Nat → Option (Int64 × Int32 × Int64)} {s0 : pe_S} : ∀ m, m ≤ 4 → pe_go ps n E s0 m = s0 ∨ pe_is ps n E (pe_go ps n E s0 m)
  | 0, _ => Or.inl rfl
  | m + 1, hm => by
    have ih := pe_go_is (ps := ps) (n := n) (E := E) (s0 := s0) m (by omega)
    cases h : E m with
    | none =>
      have e : pe_go ps n E s0 (m + 1) = pe_go ps n E s0 m := by simp only [pe_go, h]
      rw [e]
      exact ih
    | some x =>
      by_cases hb : pe_bt (pe_go ps n E s0 m).1 ps x.1 (pe_go ps n E s0 m).2.2.1 x.2.1 (pe_go ps n E s0 m).2.2.2.1 x.2.2 (pe_go ps n E s0 m).2.2.2.2
      · have e : pe_go ps n E s0 (m + 1) = (n, m, x.1, x.2.1, x.2.2) := by simp only [pe_go, h]; rw [if_pos hb]
        rw [e]
        exact Or.inr ⟨rfl, by show m < 4; omega, h⟩
      · have e : pe_go ps n E s0 (m + 1) = pe_go ps n E s0 m := by simp only [pe_go, h]; rw [if_neg hb]
        rw [e]
        exact ih
/-- nothing was there, and the row has one: then it counts -/
theorem pe_go_has {ps n : Nat} {E : Nat → Option (Int64 × Int32 × Int64)} {s0 : pe_S} (h0 : s0.1 = 0) : ∀ m, m ≤ 4 → (∃ c, c < m ∧ ¬ E c = none) → (pe_go ps n E s0 m).1 = n
  | 0, _, h => by obtain ⟨c, hc, _⟩ := h; exact absurd hc (Nat.not_lt_zero _)
  | m + 1, hm, hx => by
    by_cases hp : ∃ c, c < m ∧ ¬ E c = none
    · have ih := pe_go_has (ps := ps) (n := n) h0 m (by omega) hp
      unfold pe_go
      split
      · exact ih
      · split
        · rfl
        · exact ih
    · have hz : ∀ c, c < m → E c = none := fun c hc => Classical.byContradiction (fun q => hp ⟨c, hc, q⟩)
      obtain ⟨c, hc, hn⟩ := hx
      have e : c = m := by
        rcases Nat.lt_or_ge c m with q | q
        · exact absurd (hz c q) hn
        · omega
      subst e
      cases h : E c with
      | none => exact absurd h hn
      | some x =>
        simp only [pe_go, h]
        rw [pe_go_0 c hz, if_pos (by show pe_bt s0.1 _ _ _ _ _ _ _; rw [h0]; exact trivial)]
section PG4
variable {kd wd sr od sk ru me si : Nat → Int32} {cn mn ps : Nat} {br : Nat → Nat} {bk asked : Nat} {s0 : pe_S}
theorem pg_E_is : ∀ n, pg_E kd wd sr od sk ru me si cn mn ps br bk asked s0 n = s0 ∨ ∃ m, 1 ≤ m ∧ m ≤ n ∧ (asked = 0 ∨ m = asked) ∧ pe_is ps m (fun c => pg_v (pg_T kd wd sr od sk ru me si cn mn ps br m (bk - 1) c)) (pg_E kd wd sr od sk ru me si cn mn ps br bk asked s0 n)
  | 0 => Or.inl rfl
  | n + 1 => by
    have ih := pg_E_is n
    by_cases h : asked = 0 ∨ n + 1 = asked
    · have e : pg_E kd wd sr od sk ru me si cn mn ps br bk asked s0 (n + 1) = pe_go ps (n + 1) (fun c => pg_v (pg_T kd wd sr od sk ru me si cn mn ps br (n + 1) (bk - 1) c)) (pg_E kd wd sr od sk ru me si cn mn ps br bk asked s0 n) 4 := by
        show (if asked = 0 ∨ n + 1 = asked then _ else _) = _
        rw [if_pos h]
      rw [e]
      rcases pe_go_is (ps := ps) (n := n + 1) (E := fun c => pg_v (pg_T kd wd sr od sk ru me si cn mn ps br (n + 1) (bk - 1) c)) (s0 := pg_E kd wd sr od sk ru me si cn mn ps br bk asked s0 n) 4 (Nat.le_refl _) with q | q
      · rw [q]
        exact ih.elim Or.inl (fun ⟨m, h1, h2, h3, h4⟩ => Or.inr ⟨m, h1, by omega, h3, h4⟩)
      · exact Or.inr ⟨n + 1, by omega, Nat.le_refl _, h, q⟩
    · have e : pg_E kd wd sr od sk ru me si cn mn ps br bk asked s0 (n + 1) = pg_E kd wd sr od sk ru me si cn mn ps br bk asked s0 n := by
        show (if asked = 0 ∨ n + 1 = asked then _ else _) = _
        rw [if_neg h]
      rw [e]
      exact ih.elim Or.inl (fun ⟨m, h1, h2, h3, h4⟩ => Or.inr ⟨m, h1, by omega, h3, h4⟩)
theorem pg_E_pre (ha : 1 ≤ asked) : ∀ n, n < asked → pg_E kd wd sr od sk ru me si cn mn ps br bk asked s0 n = s0
  | 0, _ => rfl
  | n + 1, h => by
    show (if asked = 0 ∨ n + 1 = asked then _ else _) = _
    rw [if_neg (by omega)]
    exact pg_E_pre ha n (by omega)
/-- a number of lines is asked for: the best of its row, if there is one -/
theorem pg_E_at (ha : 1 ≤ asked) (hb : asked ≤ bk) : pg_E kd wd sr od sk ru me si cn mn ps br bk asked s0 bk = pe_go ps asked (fun c => pg_v (pg_T kd wd sr od sk ru me si cn mn ps br asked (bk - 1) c)) s0 4 := by
  have h1 := pg_E_past (kd := kd) (wd := wd) (sr := sr) (od := od) (sk := sk) (ru := ru) (me := me) (si := si) (cn := cn) (mn := mn) (ps := ps) (br := br) (bk := bk) (asked := asked) (s0 := s0) (n := asked) (by omega) (Nat.le_refl _) (bk - asked)
  rw [show asked + (bk - asked) = bk by omega] at h1
  rw [h1]
  obtain ⟨m, rfl⟩ : ∃ m, asked = m + 1 := ⟨asked - 1, by omega⟩
  show (if m + 1 = 0 ∨ m + 1 = m + 1 then _ else _) = _
  rw [if_pos (Or.inr rfl), pg_E_pre ha m (by omega)]
theorem pg_E_yes (ha : 1 ≤ asked) (hb : asked ≤ bk) (h0 : s0.1 = 0) (h : ∃ c, c < 4 ∧ ¬ pg_T kd wd sr od sk ru me si cn mn ps br asked (bk - 1) c = none) : (pg_E kd wd sr od sk ru me si cn mn ps br bk asked s0 bk).1 = asked := by
  rw [pg_E_at ha hb]
  obtain ⟨c, hc, hn⟩ := h
  refine pe_go_has h0 4 (Nat.le_refl _) ⟨c, hc, fun q => hn ?_⟩
  cases h9 : pg_T kd wd sr od sk ru me si cn mn ps br asked (bk - 1) c with
  | none => rfl
  | some y => simp only [h9, pg_v] at q; cases q
end PG4
