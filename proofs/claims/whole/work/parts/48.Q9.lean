/-! the class's layers are the reference's rows; its open layer is the best of all longer ways -/
theorem qb_map {α β : Type} {lt : α → α → Prop} {lt2 : β → β → Prop} {f : α → β} (hlt : ∀ x y, lt2 (f x) (f y) ↔ lt x y) {K : Nat → Option α} {K2 : Nat → Option β} {N : Nat} {r : Option (Nat × α)} (h : qb_is lt K N r) (hK : ∀ i, i < N → K2 i = (K i).map f) : qb_is lt2 K2 N (r.map (fun z => (z.1, f z.2))) := by
  cases r with
  | none => exact fun i hi => by rw [hK i hi, h i hi]; rfl
  | some z =>
    refine ⟨h.1, by show K2 z.1 = _; rw [hK _ h.1, h.2.1]; rfl, fun j hj y hy => ?_⟩
    rw [hK j hj] at hy
    cases hk : K j with
    | none => rw [hk] at hy; cases hy
    | some x =>
      rw [hk] at hy
      cases hy
      obtain ⟨a, b⟩ := h.2.2 j hj x hk
      exact ⟨fun q => a ((hlt _ _).mp q), fun q => (hlt _ _).mpr (b q)⟩
def kj_st (d : kj_D) (n x y z : Nat) (v : qx_V) : qx_V := (kj_sx d n x y z (v, 0)).1
theorem kj_sx_st (d : kj_D) (n x y z : Nat) (w : ke_K) : kj_sx d n x y z w = (kj_st d n x y z w.1, w.2 + 1) := rfl
section QM
variable {d : kj_D} {kd wd sr od sk ru me si : Nat → Int32} {cn mn ps : Nat} {br : Nat → Nat} {B : Nat}
/-- the table, with the class's weights -/
def qm_X (kd wd sr od sk ru me si : Nat → Int32) (cn mn ps : Nat) (br : Nat → Nat) (n b z : Nat) : Option (Nat × qx_V) := (qr_X kd wd sr od sk ru me si cn mn ps br n b z).map (fun y => (y.1, ql_p ps y.2))
theorem qm_is (h : ql_H d kd wd sr od sk ru me si cn mn ps br B) (hB : B ≤ 400) (n b z : Nat) (hb : b ≤ B) : qb_is (qx_lt 3) (qx_K ((qm_X kd wd sr od sk ru me si cn mn ps br) n) (kj_cl d (n + 1)) (kj_st d (n + 1)) b z) (4 * b) ((qm_X kd wd sr od sk ru me si cn mn ps br) (n + 1) b z) := by
  refine qb_map (f := ql_p ps) (fun x y => ql_lt x y) (qr_is n b z (by omega)) (fun i hi => ?_)
  unfold qx_K
  rw [ql_cl h (by omega) (show i / 4 < b by omega) hb]
  by_cases hcl : qr_cl kd wd sr od sk ru me si cn mn ps br (n + 1) (i / 4) b = some z
  · rw [if_pos hcl, if_pos hcl]
    unfold qm_X
    cases hx : (qr_X kd wd sr od sk ru me si cn mn ps br) n (i / 4) (i % 4) with
    | none => rfl
    | some y =>
      simp only [Option.map_some]
      have := ql_sx (z := i % 4) h (show 1 ≤ n + 1 by omega) (show i / 4 < b by omega) hb y.2 0
      unfold kj_st
      rw [this]
  · rw [if_neg hcl, if_neg hcl]; rfl
theorem qm_mono {k a b z : Nat} {v w : qx_V} {n m : Int} (h : ql_H d kd wd sr od sk ru me si cn mn ps br B) (hN : qn_H kd wd od ru cn B br) (hk : 1 ≤ k) (hb : b ≤ B) (hab : a < b) (hn : n ≤ 401) (hm : m ≤ 401) (hv : qn_G n v) (hw : qn_G m w) : qx_lt 3 (kj_st d k a b z (ql_p ps v)) (kj_st d k a b z (ql_p ps w)) ↔ qx_lt 3 (ql_p ps v) (ql_p ps w) := by
  have e1 : ∀ u, kj_st d k a b z (ql_p ps u) = ql_p ps (qr_st kd wd sr od sk ru me si cn mn br k a b z u) := fun u => congrArg Prod.fst (ql_sx (z := z) h hk hab hb u 0)
  rw [e1, e1, ql_lt, ql_lt]
  exact qn_mono hN hb (by omega) hn hm hv hw
/-- an open last layer -/
theorem qm_open {L : Nat} {Y : Nat → Nat → Option (Nat × qx_V × Nat)} {P : Nat → Nat → Option ke_K} {op : Prop} [Decidable op] (h : ql_H d kd wd sr od sk ru me si cn mn ps br B) (hN : qn_H kd wd od ru cn B br) (hmc : 1 ≤ d.mc) (hB1 : 1 ≤ B) (hL : L = min B d.mc) (hop : op) (hP : ∀ a z, a ≤ B → z < 4 → P a z = ((qm_X kd wd sr od sk ru me si cn mn ps br) (L - 1) a z).map (fun y => (y.2, L - 1)))
    (hY : ∀ b z, b ≤ B → z < 4 → qb_is ke_T (kz_K d L P Y op b z) (8 * b) (Y b z)) : qy_H (qx_lt 3) (fun w => ∃ (n : Int) (v : qx_V), n ≤ 401 ∧ qn_G n v ∧ w = ql_p ps v) B L (qm_X kd wd sr od sk ru me si cn mn ps br) Y (kj_cl d) (kj_st d) := by
  refine ⟨?_, ?_, ?_, ?_, ?_, ?_, ?_, ?_⟩
  · exact qx_O 3
  · exact by omega
  · exact fun n b z hb hz => qm_is h hN.hB n b z hb
  · exact fun b z hb => by
      show (if b = 0 ∧ z = 2 then _ else none : Option (Nat × qx_V)).map _ = _
      rw [if_neg (by omega)]; rfl
  · exact fun n b z p w hb hz hx => by
      have hB := hN.hB
      unfold qm_X at hx
      cases hy : (qr_X kd wd sr od sk ru me si cn mn ps br) n b z with
      | none => rw [hy] at hx; cases hx
      | some y =>
        rw [hy] at hx
        cases hx
        have hle := qr_le n b z (by omega) hz y hy
        exact ⟨n, y.2, by omega, qn_X hN n b z y.1 y.2 (by omega) hb hy, rfl⟩
  · exact fun k a b z x y hk hx hy hb hab hz => by
      obtain ⟨n, v, n1, n2, rfl⟩ := hx
      obtain ⟨m, w, m1, m2, rfl⟩ := hy
      exact qm_mono h hN hk hb hab n1 m1 n2 m2
  · exact fun k a b hk ha hab hb => by
      have e : max 1 (min k d.mc) - 1 = max 1 (min L d.mc) - 1 := by omega
      have eE : kj_E d k a b = kj_E d L a b := by unfold kj_E; rw [e]
      refine ⟨?_, fun z x => ?_⟩
      · unfold kj_cl kj_ok kj_B kj_C kj_O
        rw [eE]
      · unfold kj_st kj_sx kj_m kj_B kj_C kj_O
        rw [eE]
  · exact fun b z hb hz => by
      refine qb_congr (hY b z hb hz) (fun i hi => ?_)
      unfold kz_K qy_K
      rw [hP (i / 8) (i % 4) (by omega) (by omega)]
      split
      · split
        · rw [Option.map_map]
          cases (qm_X kd wd sr od sk ru me si cn mn ps br) (L - 1) (i / 8) (i % 4) with
          | none => rfl
          | some y =>
            show some (kj_sx d L (i / 8) b (i % 4) (y.2, L - 1)) = some _
            rw [kj_sx_st]
            show some (_, L - 1 + 1) = _
            rw [show L - 1 + 1 = L by omega]
        · (try rw [if_pos hop])
          rw [Option.map_map]
          cases Y (i / 8) (i % 4) with
          | none => rfl
          | some y => rfl
      · rfl
/-- a closed layer -/
theorem qm_closed {n : Nat} {Z : Nat → Nat → ke_R} {P : Nat → Nat → Option ke_K} {op : Prop} [Decidable op] (h : ql_H d kd wd sr od sk ru me si cn mn ps br B) (hB : B ≤ 400) (hn : 1 ≤ n) (hop : ¬ op) (hP : ∀ a z, a ≤ B → z < 4 → P a z = ((qm_X kd wd sr od sk ru me si cn mn ps br) (n - 1) a z).map (fun y => (y.2, n - 1))) {b z : Nat} (hb : b ≤ B)
    (hZ : qb_is ke_T (kz_K d n P Z op b z) (8 * b) (Z b z)) : Z b z = ((qm_X kd wd sr od sk ru me si cn mn ps br) n b z).map (fun y => (8 * (y.1 / 4) + y.1 % 4, y.2, n)) := by
  refine qb_uni hZ ?_
  have hX := qm_is h hB (n - 1) b z hb
  rw [show n - 1 + 1 = n by omega] at hX
  have hlo : ∀ x i, i < 4 → x < b → kz_K d n P Z op b z (8 * x + i) = (qx_K ((qm_X kd wd sr od sk ru me si cn mn ps br) (n - 1)) (kj_cl d n) (kj_st d n) b z (4 * x + i)).map (fun w => (w, n)) := fun x i hi hx => by
    rw [kz_lo hi]
    unfold qx_K
    rw [show (4 * x + i) / 4 = x by omega, show (4 * x + i) % 4 = i by omega, hP x i (by omega) hi]
    by_cases hcl : kj_cl d n x b = some z
    · rw [if_pos hcl, if_pos hcl]
      cases (qm_X kd wd sr od sk ru me si cn mn ps br) (n - 1) x i with
      | none => rfl
      | some y =>
        show some (kj_sx d n x b i (y.2, n - 1)) = some _
        rw [kj_sx_st]
        show some (_, n - 1 + 1) = _
        rw [show n - 1 + 1 = n by omega]
    · rw [if_neg hcl, if_neg hcl]; rfl
  have hhi : ∀ i, i < 8 * b → ¬ i % 8 < 4 → kz_K d n P Z op b z i = none := fun i hi h8 => by
    unfold kz_K
    rw [if_neg h8, if_neg hop]
    split <;> rfl
  have hloi : ∀ i, i < 8 * b → i % 8 < 4 → kz_K d n P Z op b z i = (qx_K ((qm_X kd wd sr od sk ru me si cn mn ps br) (n - 1)) (kj_cl d n) (kj_st d n) b z (4 * (i / 8) + i % 4)).map (fun w => (w, n)) := fun i hi h8 => by
    have := hlo (i / 8) (i % 4) (by omega) (by omega)
    rw [show 8 * (i / 8) + i % 4 = i by omega] at this
    exact this
  cases hx : (qm_X kd wd sr od sk ru me si cn mn ps br) n b z with
  | none =>
    rw [hx] at hX
    intro i hi
    by_cases h8 : i % 8 < 4
    · rw [hloi i hi h8, hX _ (by omega)]; rfl
    · exact hhi i hi h8
  | some y =>
    rw [hx] at hX
    obtain ⟨h1, h2, h3⟩ := hX
    refine ⟨by show 8 * (y.1 / 4) + y.1 % 4 < 8 * b; omega, ?_, fun j hj w hw => ?_⟩
    · show kz_K d n P Z op b z (8 * (y.1 / 4) + y.1 % 4) = _
      rw [hlo _ _ (by omega) (by omega), show 4 * (y.1 / 4) + y.1 % 4 = y.1 by omega, h2]
      rfl
    · by_cases h8 : j % 8 < 4
      · rw [hloi j hj h8] at hw
        cases hk : qx_K ((qm_X kd wd sr od sk ru me si cn mn ps br) (n - 1)) (kj_cl d n) (kj_st d n) b z (4 * (j / 8) + j % 4) with
        | none => rw [hk] at hw; cases hw
        | some v =>
          rw [hk] at hw
          cases hw
          obtain ⟨g1, g2⟩ := h3 _ (by omega) v hk
          refine ⟨fun q => ?_, fun q => Or.inl (g2 ?_)⟩
          · rcases q with q | ⟨_, q⟩
            · exact g1 q
            · exact Nat.lt_irrefl _ q
          · have q2 : j < 8 * (y.1 / 4) + y.1 % 4 := q
            omega
      · rw [hhi j hj h8] at hw; cases hw
end QM
