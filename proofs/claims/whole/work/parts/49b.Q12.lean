/-! the way itself, from its end -/
def qt_d (X : Nat → Nat → Nat → Option (Nat × qx_V)) (N b z : Nat) : Nat → Nat × Nat
  | 0 => (b, z)
  | d + 1 => match X (N - d) (qt_d X N b z d).1 (qt_d X N b z d).2 with
    | some y => (y.1 / 4, y.1 % 4)
    | none => (0, 0)
def qt_b (X : Nat → Nat → Nat → Option (Nat × qx_V)) (N b z k : Nat) : Nat := (qt_d X N b z (N - k)).1
def qt_z (X : Nat → Nat → Nat → Option (Nat × qx_V)) (N b z k : Nat) : Nat := (qt_d X N b z (N - k)).2
theorem qt_b_N {X : Nat → Nat → Nat → Option (Nat × qx_V)} {N b z : Nat} : qt_b X N b z N = b := by unfold qt_b; rw [Nat.sub_self]; rfl
theorem qt_z_N {X : Nat → Nat → Nat → Option (Nat × qx_V)} {N b z : Nat} : qt_z X N b z N = z := by unfold qt_z; rw [Nat.sub_self]; rfl
theorem qt_s {X : Nat → Nat → Nat → Option (Nat × qx_V)} {N b z k p : Nat} {v : qx_V} (h1 : 1 ≤ k) (h2 : k ≤ N) (h : X k (qt_b X N b z k) (qt_z X N b z k) = some (p, v)) : qt_b X N b z (k - 1) = p / 4 ∧ qt_z X N b z (k - 1) = p % 4 := by
  unfold qt_b qt_z at *
  rw [show N - (k - 1) = (N - k) + 1 by omega]
  simp only [qt_d]
  rw [show N - (N - k) = k by omega, h]
  exact ⟨rfl, rfl⟩
section QT
variable {kd wd sr od sk ru me si : Nat → Int32} {cn mn ps : Nat} {br : Nat → Nat}
theorem qt_some {N b z : Nat} (hb : b ≤ 400) (h : ∃ y, (qr_X kd wd sr od sk ru me si cn mn ps br) N b z = some y) : ∀ d, d ≤ N → (∃ y, (qr_X kd wd sr od sk ru me si cn mn ps br) (N - d) (qt_b (qr_X kd wd sr od sk ru me si cn mn ps br) N b z (N - d)) (qt_z (qr_X kd wd sr od sk ru me si cn mn ps br) N b z (N - d)) = some y) ∧ qt_b (qr_X kd wd sr od sk ru me si cn mn ps br) N b z (N - d) ≤ b
  | 0, _ => by
    rw [Nat.sub_zero, qt_b_N, qt_z_N]
    exact ⟨h, Nat.le_refl _⟩
  | d + 1, hd => by
    obtain ⟨⟨y, hy⟩, hle⟩ := qt_some hb h d (by omega)
    obtain ⟨e1, e2⟩ := qt_s (by omega) (by omega) (show (qr_X kd wd sr od sk ru me si cn mn ps br) (N - d) _ _ = some (y.1, y.2) from hy)
    have hy2 : (qr_X kd wd sr od sk ru me si cn mn ps br) (N - d - 1 + 1) (qt_b (qr_X kd wd sr od sk ru me si cn mn ps br) N b z (N - d)) (qt_z (qr_X kd wd sr od sk ru me si cn mn ps br) N b z (N - d)) = some (y.1, y.2) := by rw [show N - d - 1 + 1 = N - d by omega]; exact hy
    obtain ⟨k1, k2, q, w, k3, k4⟩ := qr_from (by omega) hy2
    rw [show N - (d + 1) = N - d - 1 by omega, e1, e2]
    exact ⟨⟨_, k3⟩, by omega⟩
/-- a step of the way: line k goes from the break before to this one -/
theorem qt_ok {N b z k : Nat} (hb : b ≤ 400) (h : ∃ y, (qr_X kd wd sr od sk ru me si cn mn ps br) N b z = some y) (h1 : 1 ≤ k) (h2 : k ≤ N) : ∃ (p : Nat) (v w : qx_V) (q : Nat), (qr_X kd wd sr od sk ru me si cn mn ps br) k (qt_b (qr_X kd wd sr od sk ru me si cn mn ps br) N b z k) (qt_z (qr_X kd wd sr od sk ru me si cn mn ps br) N b z k) = some (p, v) ∧ (qr_X kd wd sr od sk ru me si cn mn ps br) (k - 1) (qt_b (qr_X kd wd sr od sk ru me si cn mn ps br) N b z (k - 1)) (qt_z (qr_X kd wd sr od sk ru me si cn mn ps br) N b z (k - 1)) = some (q, w) ∧ p = 4 * qt_b (qr_X kd wd sr od sk ru me si cn mn ps br) N b z (k - 1) + qt_z (qr_X kd wd sr od sk ru me si cn mn ps br) N b z (k - 1) ∧ qt_z (qr_X kd wd sr od sk ru me si cn mn ps br) N b z (k - 1) < 4 ∧ qt_b (qr_X kd wd sr od sk ru me si cn mn ps br) N b z (k - 1) < qt_b (qr_X kd wd sr od sk ru me si cn mn ps br) N b z k ∧ qt_b (qr_X kd wd sr od sk ru me si cn mn ps br) N b z k ≤ b ∧ qr_cl kd wd sr od sk ru me si cn mn ps br k (qt_b (qr_X kd wd sr od sk ru me si cn mn ps br) N b z (k - 1)) (qt_b (qr_X kd wd sr od sk ru me si cn mn ps br) N b z k) = some (qt_z (qr_X kd wd sr od sk ru me si cn mn ps br) N b z k) ∧ v = qr_st kd wd sr od sk ru me si cn mn br k (qt_b (qr_X kd wd sr od sk ru me si cn mn ps br) N b z (k - 1)) (qt_b (qr_X kd wd sr od sk ru me si cn mn ps br) N b z k) (qt_z (qr_X kd wd sr od sk ru me si cn mn ps br) N b z (k - 1)) w := by
  obtain ⟨⟨y, hy⟩, hle⟩ := qt_some hb h (N - k) (by omega)
  rw [show N - (N - k) = k by omega] at hy hle
  obtain ⟨e1, e2⟩ := qt_s h1 h2 (show (qr_X kd wd sr od sk ru me si cn mn ps br) k _ _ = some (y.1, y.2) from hy)
  have hy2 : (qr_X kd wd sr od sk ru me si cn mn ps br) (k - 1 + 1) (qt_b (qr_X kd wd sr od sk ru me si cn mn ps br) N b z k) (qt_z (qr_X kd wd sr od sk ru me si cn mn ps br) N b z k) = some (y.1, y.2) := by rw [show k - 1 + 1 = k by omega]; exact hy
  obtain ⟨k1, k2, q, w, k3, k4⟩ := qr_from (by omega) hy2
  rw [show k - 1 + 1 = k by omega] at k2 k4
  refine ⟨y.1, y.2, w, q, hy, ?_, ?_, ?_, ?_, hle, ?_, ?_⟩
  · rw [e1, e2]; exact k3
  · rw [e1, e2]; omega
  · rw [e2]; omega
  · rw [e1]; omega
  · rw [e1]; exact k2
  · rw [e1, e2]; exact k4
theorem qt_0 {N b z : Nat} (hb : b ≤ 400) (h : ∃ y, (qr_X kd wd sr od sk ru me si cn mn ps br) N b z = some y) : qt_b (qr_X kd wd sr od sk ru me si cn mn ps br) N b z 0 = 0 ∧ qt_z (qr_X kd wd sr od sk ru me si cn mn ps br) N b z 0 = 2 ∧ (qr_X kd wd sr od sk ru me si cn mn ps br) 0 0 2 = some (0, (0, 0, 0)) := by
  obtain ⟨⟨y, hy⟩, _⟩ := qt_some hb h N (Nat.le_refl _)
  rw [Nat.sub_self] at hy
  have hy2 : (if qt_b (qr_X kd wd sr od sk ru me si cn mn ps br) N b z 0 = 0 ∧ qt_z (qr_X kd wd sr od sk ru me si cn mn ps br) N b z 0 = 2 then some (0, ((0 : Int64), (0 : Int32), (0 : Int64))) else none) = some y := hy
  split at hy2
  · rename_i q
    exact ⟨q.1, q.2, rfl⟩
  · cases hy2
theorem qt_tf {n j z : Nat} (hn : 1 ≤ n) (hj : j < 400) : pg_T kd wd sr od sk ru me si cn mn ps br (n + 1) j z = qr_tf ((qr_X kd wd sr od sk ru me si cn mn ps br) (n + 1) (j + 1) z) ∧ ∀ y, (qr_X kd wd sr od sk ru me si cn mn ps br) (n + 1) (j + 1) z = some y → 4 ≤ y.1 := by
  have h1 : qs_is (qx_lt ps) (qx_K ((qr_X kd wd sr od sk ru me si cn mn ps br) n) (qr_cl kd wd sr od sk ru me si cn mn ps br (n + 1)) (qr_st kd wd sr od sk ru me si cn mn br (n + 1)) (j + 1) z) (fun i => 4 * j + 4 ≤ i ∧ i < 4 * (j + 1)) none := fun i hi => absurd hi (by omega)
  obtain ⟨r2, g1, g2⟩ := qr_dn (n := n) (j := j) (c := z) hn hj j (fun _ => none) none (Nat.le_refl _) rfl h1 (fun x h1 h2 => absurd h1 (by omega))
  have hT : pg_T kd wd sr od sk ru me si cn mn ps br (n + 1) j z = qr_tf r2 := by
    rw [← g1]
    simp only [pg_T, if_neg (show ¬ n = 0 by omega)]
  have hX : (qr_X kd wd sr od sk ru me si cn mn ps br) (n + 1) (j + 1) z = r2 := by
    rw [qr_X_up (by omega), if_neg (by omega), show j + 1 - 1 = j by omega, hT]
    cases r2 with
    | none => rfl
    | some z =>
      show some (qr_pt (nI (z.1 - 3)), _) = _
      have := g2.1
      rw [qr_pt_i (by omega) (by omega)]
  refine ⟨by rw [hX]; exact hT, fun y hy => ?_⟩
  rw [hX] at hy
  rw [hy] at g2
  exact g2.1.1
/-- the fronts that the reference keeps -/
theorem qt_fr {n j z p : Nat} {v : qx_V} (hj : j < 400) (h : (qr_X kd wd sr od sk ru me si cn mn ps br) (n + 1) (j + 1) z = some (p, v)) : ∃ f : Int32, pg_T kd wd sr od sk ru me si cn mn ps br (n + 1) j z = some (v.1, v.2.1, v.2.2, f) ∧ ((p / 4 = 0 ∧ f = nI 5000 ∧ p = 2) ∨ (1 ≤ p / 4 ∧ f = nI (p - 3) ∧ p < 4 * (j + 1))) := by
  have h1 := qr_from (by omega) h
  rw [qr_X_up (by omega), if_neg (by omega), show j + 1 - 1 = j by omega] at h
  cases hT : pg_T kd wd sr od sk ru me si cn mn ps br (n + 1) j z with
  | none => rw [hT] at h; cases h
  | some y =>
    rw [hT] at h
    have e := Option.some.inj h
    have e1 : qr_pt y.2.2.2 = p := congrArg Prod.fst e
    have e2 : (y.1, y.2.1, y.2.2.1) = v := congrArg Prod.snd e
    refine ⟨y.2.2.2, by rw [← e2], ?_⟩
    unfold qr_pt at e1
    by_cases h5 : y.2.2.2 = nI 5000
    · rw [if_pos h5] at e1
      exact Or.inl ⟨by omega, h5, e1.symm⟩
    · rw [if_neg h5] at e1
      -- a front of the table
      rcases Nat.eq_zero_or_pos n with hn | hn
      · subst hn
        obtain ⟨_, _, q, w, k3, _⟩ := h1
        have k4 : (if p / 4 = 0 ∧ p % 4 = 2 then some (0, ((0 : Int64), (0 : Int32), (0 : Int64))) else none) = some (q, w) := k3
        split at k4
        · omega
        · cases k4
      · obtain ⟨k1, k2⟩ := qt_tf (kd := kd) (wd := wd) (sr := sr) (od := od) (sk := sk) (ru := ru) (me := me) (si := si) (cn := cn) (mn := mn) (ps := ps) (br := br) (z := z) hn hj
        have hX : (qr_X kd wd sr od sk ru me si cn mn ps br) (n + 1) (j + 1) z = some (p, v) := by rw [qr_X_up (by omega), if_neg (by omega), show j + 1 - 1 = j by omega, hT]; exact h
        rw [hX] at k1 k2
        have k3 := k2 _ rfl
        have k3 : 4 ≤ p := k3
        rw [hT] at k1
        have k4 : y.2.2.2 = nI (p - 3) := congrArg (fun u : pt_C => u.2.2.2) (Option.some.inj k1)
        exact Or.inr ⟨by omega, k4, h1.1⟩
end QT
