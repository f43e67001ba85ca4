-- equality, floating point: the reference rounds
theorem eU_dv {f : Nat → Nat} (h1 : ∀ j, f j ≤ 1) {k : Nat} (hk : k ≤ 4400) : eU f 0 4400 / 2 ^ k = eU f k (4400 - k) ∧ eU f 0 4400 % 2 ^ k = eU f 0 k := by
  have e := eU_sp (f := f) (k := k) (m := 4400 - k) (a := 0)
  rw [Nat.zero_add, show k + (4400 - k) = 4400 by omega] at e
  have l := eU_lt h1 (m := k) (a := 0)
  have hp : 0 < 2 ^ k := Nat.pow_pos (by decide)
  rw [e]
  exact ⟨by rw [Nat.add_comm, Nat.mul_add_div hp, Nat.div_eq_of_lt l, Nat.add_zero], by rw [Nat.add_comm, Nat.mul_add_mod, Nat.mod_eq_of_lt l]⟩
theorem eU_nx {f : Nat → Nat} {k : Nat} (hk : k < 4400) : eU f k (4400 - k) = f k + 2 * eU f (k + 1) (4400 - (k + 1)) := by
  rw [show 4400 - k = 4400 - (k + 1) + 1 by omega]
  rfl
theorem eU_bt {f : Nat → Nat} (h1 : ∀ j, f j ≤ 1) {k : Nat} (hk : k < 4400) : eU f 0 4400 / 2 ^ k % 2 = f k := by
  have := h1 k
  rw [(eU_dv h1 (Nat.le_of_lt hk)).1, eU_nx hk]
  omega
theorem eU_lg {f : Nat → Nat} (h1 : ∀ j, f j ≤ 1) {k : Nat} (hk : k < 4400) (hf : f k = 1) (hz : ∀ j, k < j → f j = 0) : (eU f 0 4400).log2 = k := by
  have e := eU_sp (f := f) (k := k) (m := 4400 - k) (a := 0)
  rw [Nat.zero_add, show k + (4400 - k) = 4400 by omega, eU_nx hk, hf, eU_z (fun j hj => hz j hj), Nat.mul_zero, Nat.add_zero, Nat.mul_one] at e
  have l := eU_lt h1 (m := k) (a := 0)
  rw [e]
  exact log2_of (Nat.le_add_left _ _) (by rw [Nat.pow_succ]; omega)
theorem eU_al {f : Nat → Nat} (hz : ∀ j, f j = 0) : eU f 0 4400 = 0 := eU_z (fun j _ => hz j)
theorem eU_0 {f : Nat → Nat} : ∀ {m a : Nat}, (eU f a m = 0 ↔ ∀ j, a ≤ j → j < a + m → f j = 0)
  | 0, a => ⟨fun _ j h1 h2 => absurd h2 (by omega), fun _ => rfl⟩
  | m + 1, a => by
    have i := eU_0 (f := f) (m := m) (a := a + 1)
    show f a + 2 * eU f (a + 1) m = 0 ↔ _
    constructor
    · intro h j h1 h2
      rcases Nat.eq_or_lt_of_le h1 with e | e
      · rw [← e]; omega
      · exact i.mp (by omega) j e (by omega)
    · intro h
      have := i.mpr (fun j h1 h2 => h j (by omega) (by omega))
      have := h a (Nat.le_refl _) (by omega)
      omega
theorem rk_up {V c ρ : Nat} (hρ : ρ ≤ 1) : rnk (2 * V + ρ) (c + 2) = V / 2 ^ (c + 1) + (if V / 2 ^ c % 2 = 1 ∧ ((ρ = 1 ∨ V % 2 ^ c ≠ 0) ∨ V / 2 ^ (c + 1) % 2 = 1) then 1 else 0) := by
  have hp : 0 < 2 ^ c := Nat.pow_pos (by decide)
  have e0 : 2 ^ (c + 2) = 2 * 2 ^ (c + 1) := by rw [Nat.pow_succ 2 (c + 1), Nat.mul_comm]
  have e1 : (2 * V + ρ) / 2 ^ (c + 2) = V / 2 ^ (c + 1) := by
    rw [e0, ← Nat.div_div_eq_div_mul, show (2 * V + ρ) / 2 = V by omega]
  have e2 : (2 * V + ρ) % 2 ^ (c + 2) = 2 * (V % 2 ^ (c + 1)) + ρ := by
    rw [e0, Nat.mod_mul, show (2 * V + ρ) / 2 = V by omega, show (2 * V + ρ) % 2 = ρ by omega, Nat.add_comm]
  unfold rnk
  rw [e1, e2, mod_nx V c, e0, Nat.pow_succ]
  congr 1
  have l := Nat.mod_lt V hp
  generalize V % 2 ^ c = l' at *
  have hβ : V / 2 ^ c % 2 < 2 := Nat.mod_lt _ (by decide)
  generalize V / 2 ^ c % 2 = β at *
  generalize V / (2 ^ c * 2) = q at *
  generalize 2 ^ c = Hh at *
  have key : (2 * (Hh * 2) < 2 * (2 * (Hh * β + l') + ρ) ∨ 2 * (2 * (Hh * β + l') + ρ) = 2 * (Hh * 2) ∧ q % 2 = 1) ↔ (β = 1 ∧ ((ρ = 1 ∨ l' ≠ 0) ∨ q % 2 = 1)) := by
    rcases (show β = 0 ∨ β = 1 by omega) with h9 | h9 <;> subst h9
    · rw [Nat.mul_zero]
      omega
    · rw [Nat.mul_one]
      omega
  simp only [key]
theorem lg_2 {V ρ : Nat} (hV : 0 < V) (hρ : ρ ≤ 1) : (2 * V + ρ).log2 = V.log2 + 1 := by
  obtain ⟨h1, h2⟩ := log2_b hV
  refine log2_of ?_ ?_
  · rw [Nat.pow_succ]; omega
  · rw [Nat.pow_succ]; omega
/-- what the reference makes of the bits that are kept -/
def rdR (p b K : Nat) (e : Int) : Nat := if K / 2 ^ (p - 1) = 0 then K else if e + 1 ≤ 2 * (b : Int) then (e + 1).toNat * 2 ^ (p - 1) + K % 2 ^ (p - 1) else fI_ p b
section XF2
variable {ex rw_ p b a : Nat} {f : Nat → Nat} {h : xb_H} {τ : Int} {x : Int64}
theorem M_lo {V t j : Nat} (h1 : 2 ^ t ≤ V) (h2 : V < 2 ^ (t + 1)) (hj : j ≤ t) : 2 ^ j ≤ V / 2 ^ (t - j) ∧ V / 2 ^ (t - j) < 2 ^ (j + 1) := by
  have hp : 0 < 2 ^ (t - j) := Nat.pow_pos (by decide)
  refine ⟨(Nat.le_div_iff_mul_le hp).mpr ?_, (Nat.div_lt_iff_lt_mul hp).mpr ?_⟩
  · rw [← Nat.pow_add, show j + (t - j) = t by omega]
    exact h1
  · rw [← Nat.pow_add, show j + 1 + (t - j) = t + 1 by omega]
    exact h2
theorem dm_2 {P K : Nat} (hP : 0 < P) (h1 : P ≤ K) (h2 : K < 2 * P) : K / P = 1 ∧ K % P = K - P := by
  have e : K = P * 1 + (K - P) := by omega
  constructor
  · rw [e, Nat.mul_add_div hP, Nat.div_eq_of_lt (by omega)]
  · rw [e, Nat.mul_add_mod, Nat.mod_eq_of_lt (by omega)]
    omega
theorem rd_fin {V ρ cut M : Nat} (hb : fpb τ p b) (hV : 0 < V) (hρ : ρ ≤ 1) (hc : (V.log2 ≤ 2201 - b ∧ cut = 2202 - b - p) ∨ (2201 - b < V.log2 ∧ cut = V.log2 - (p - 1))) (hM : M = rnk (2 * V + ρ) (cut + 1)) (hM1 : V / 2 ^ cut ≤ M) (hM2 : M ≤ V / 2 ^ cut + 1) :
    (M / 2 ^ (p - 1) ≠ 2 → M < 2 ^ p ∧ rdR p b M (cut - (2202 - b - p : Nat)) = rnF p b (2 * V + ρ) (-2201)) ∧ (M / 2 ^ (p - 1) = 2 → M / 2 < 2 ^ p ∧ rdR p b (M / 2) (cut - (2202 - b - p : Nat) + 1) = rnF p b (2 * V + ρ) (-2201)) := by
  have hp : (p = 24 ∧ b = 127) ∨ (p = 53 ∧ b = 1023) := by unfold fpb at hb; omega
  obtain ⟨l1, l2⟩ := log2_b hV
  have P0 : 0 < 2 ^ (p - 1) := Nat.pow_pos (by decide)
  have P1 : 2 ^ p = 2 * 2 ^ (p - 1) := by rw [Nat.mul_comm, ← Nat.pow_succ, show (p - 1).succ = p by omega]
  have eF : rnF p b (2 * V + ρ) (-2201) = if 2 * (b : Int) < V.log2 - 2200 + b then fI_ p b else if 0 < (V.log2 : Int) - 2200 + b then rnk (2 * V + ρ) (V.log2 + 1 - (p - 1)) + ((V.log2 : Int) - 2200 + b - 1).toNat * 2 ^ (p - 1) else rnk (2 * V + ρ) (2203 - b - p) := by
    unfold rnF
    rw [lg_2 hV hρ, show (-2201 : Int) + ((V.log2 + 1 : Nat) : Int) + b = V.log2 - 2200 + b by omega]
    split
    · rfl
    · split
      · rw [if_pos (by omega)]
      · rw [if_pos (by omega), show (2 - (-2201 : Int) - b - p).toNat = 2203 - b - p by omega]
  rw [eF]
  generalize V.log2 = t at *
  rcases Int.lt_or_le 0 ((t : Int) - 2200 + b) with c1 | c1
  · -- not too small
    have ec : cut = t - (p - 1) := by omega
    have ecut : cut + 1 = t + 1 - (p - 1) := by omega
    have ml := M_lo l1 l2 (show p - 1 ≤ t by omega)
    rw [← ec, show p - 1 + 1 = p by omega, P1] at ml
    have g1 : 2 ^ (p - 1) ≤ M := Nat.le_trans ml.1 hM1
    have g2 : M ≤ 2 * 2 ^ (p - 1) := by omega
    rw [if_pos c1, ← ecut, ← hM]
    clear hM hM1 hM2 ml eF
    have ee : (cut : Int) - (2202 - b - p : Nat) = (t : Int) - 2200 + b - 1 := by omega
    rw [ee, P1]
    clear ee ec ecut hc l1 l2
    generalize (t : Int) - 2200 + b = w at *
    unfold fI_ rdR fI_
    generalize 2 ^ (p - 1) = P at *
    rcases Nat.lt_or_ge M (2 * P) with c2 | c2
    · obtain ⟨d1, d2⟩ := dm_2 P0 g1 c2
      refine ⟨fun _ => ⟨c2, ?_⟩, fun h9 => absurd h9 (by omega)⟩
      rw [d1, d2, if_neg (by decide), show w - 1 + 1 = w by omega]
      by_cases c3 : 2 * (b : Int) < w
      · rw [if_neg (by omega), if_pos c3]
      · rw [if_pos (by omega), if_neg c3]
        have : w.toNat = (w - 1).toNat + 1 := by omega
        rw [this, Nat.add_mul, Nat.one_mul]
        omega
    · have eM : M = 2 * P := by omega
      have d0 : M / P = 2 := by rw [eM, Nat.mul_div_cancel _ P0]
      have d1 : M / 2 = P := by omega
      refine ⟨fun h9 => absurd d0 h9, fun _ => ⟨by omega, ?_⟩⟩
      rw [d1, Nat.div_self P0, Nat.mod_self, if_neg (by decide), Nat.add_zero, show w - 1 + 1 + 1 = w + 1 by omega]
      by_cases c3 : 2 * (b : Int) < w
      · rw [if_neg (by omega), if_pos c3]
      · rw [if_neg c3, eM]
        by_cases c4 : w + 1 ≤ 2 * (b : Int)
        · rw [if_pos c4, ← Nat.add_mul]
          congr 1
          omega
        · rw [if_neg c4, ← Nat.add_mul]
          congr 1
          omega
  · -- too small for the usual form
    have ec : cut = 2202 - b - p := by omega
    have ecut : cut + 1 = 2203 - b - p := by omega
    have ml : V / 2 ^ cut < 2 ^ (p - 1) := by
      refine (Nat.div_lt_iff_lt_mul (Nat.pow_pos (by decide))).mpr ?_
      rw [← Nat.pow_add]
      refine Nat.lt_of_lt_of_le l2 (Nat.pow_le_pow_right (by decide) ?_)
      omega
    have g2 : M ≤ 2 ^ (p - 1) := by omega
    rw [if_neg (by omega), if_neg (by omega), ← ecut, ← hM, P1, ← ec]
    clear hM hM1 hM2 ml eF l1 l2 hc ecut ec
    generalize hC : (cut : Int) - cut = z
    have hz : z = 0 := by omega
    subst hz
    unfold rdR
    generalize 2 ^ (p - 1) = P at *
    rcases Nat.lt_or_ge M P with c2 | c2
    · have d1 : M / P = 0 := Nat.div_eq_of_lt c2
      rw [d1]
      exact ⟨fun _ => ⟨by omega, if_pos rfl⟩, fun h9 => absurd h9 (by decide)⟩
    · have eM : M = P := by omega
      rw [eM, Nat.div_self P0, Nat.mod_self]
      refine ⟨fun _ => ⟨by omega, ?_⟩, fun h9 => absurd h9 (by decide)⟩
      rw [if_neg (by decide), if_pos (by omega), show ((0 : Int) + 1).toNat = 1 from rfl, Nat.one_mul, Nat.add_zero]
theorem xr_ehighest {Qr : Int32 → xb_H → Prop} (hk : eK ex rw_ f h) (hV : 0 < eU f 0 4400) (hQ : ∀ r : Int32, r.toInt = (eU f 0 4400).log2 → (eU f 0 4400).log2 < 4400 → Qr r h) : w_Exact_highest ex h Qr := by
  obtain ⟨k1, k2, lo, hi, k3, k4, k5, k6, k7, k8⟩ := id hk
  have f1 : ∀ j, f j ≤ 1 := fun j => (k7 j).2
  have key : ∀ (m : Nat) (x : Int32), x.toInt = (m : Int) - 1 → m ≤ 4400 → (∀ j, m ≤ j → f j = 0) → w_Exact_highest_L5 Qr (m + 1) ex x h := by
    intro m
    induction m with
    | zero =>
      intro x e1 e2 e3
      have := eU_al (fun j => e3 j (Nat.zero_le j))
      omega
    | succ m ih =>
      intro x e1 e2 e3
      have ex1 : x.toInt = m := by omega
      have ec : x.toNatClampNeg = m := by rw [z_cl, ex1]; rfl
      have g := k7 m
      unfold w_Exact_highest_L5 w_Exact_highest_L28 w_Exact_highest_L41
      rw [z_lt, k3, ex1]
      refine ⟨k1.1, fun e => ?_, fun e => ⟨rw_, k1.2.1, k1.2.2.1, by rw [z_in, ex1, k1.2.2.2]; omega, fun c => ⟨k1.1, fun e9 => absurd e9 e, fun _ => ?_⟩, fun c => ih (x + -1) (by rw [z_add, ex1, show (-1 : Int32).toInt = -1 from rfl]; omega) (by omega) (fun j hj => ?_)⟩⟩
      · have : ∀ j, f j = 0 := fun j => by
          rcases Nat.lt_or_ge j lo with h9 | h9
          · exact k8 j (.inl h9)
          · exact e3 j (by omega)
        have := eU_al this
        omega
      · rw [ec, z_eq, g.1, show (0 : Int32).toInt = 0 from rfl] at c
        have lg := eU_lg f1 (show m < 4400 by omega) (show f m = 1 by omega) (fun j hj => e3 j hj)
        exact hQ x (by rw [lg]; exact ex1) (by rw [lg]; omega)
      · rw [ec, z_eq, g.1, show (0 : Int32).toInt = 0 from rfl] at c
        rcases Nat.eq_or_lt_of_le hj with h9 | h9
        · rw [← h9]; omega
        · exact e3 j h9
  unfold w_Exact_highest
  exact ⟨k1.1, fun v2 e2 => ⟨hi + 1 + 1, key (hi + 1) v2 (by rw [e2, k4]; omega) (by omega) (fun j hj => k8 j (.inr hj))⟩⟩
theorem xr_eisBelow {c : Int32} {n ρ : Nat} {Qr : Int32 → xb_H → Prop} (hk : eK ex rw_ f h) (hρ : (xb_i h ex 4).toInt = ρ) (hc : c.toInt = n) (hQ : ∀ r : Int32, (r = 0 ↔ ρ = 0 ∧ eU f 0 n = 0) → Qr r h) : w_Exact_isBelow ex c h Qr := by
  obtain ⟨k1, k2, lo, hi, k3, k4, k5, k6, k7, k8⟩ := id hk
  have L48 : ∀ (x : Int32) (m : Nat), (x = 0 ∨ x = 1) → (x = 0 ↔ ρ = 0 ∧ ∀ j, j < m → j < n → f j = 0) → (n ≤ m ∨ hi < m) → w_Exact_isBelow_L48 Qr x h := by
    intro x m hx g1 g2
    unfold w_Exact_isBelow_L48
    refine ⟨hx, hQ _ (g1.trans (and_congr_right fun _ => ?_))⟩
    rw [eU_0]
    refine ⟨fun h9 j _ h8 => ?_, fun h9 j _ h8 => h9 j (Nat.zero_le _) (by omega)⟩
    rcases Nat.lt_or_ge j m with h7 | h7
    · exact h9 j h7 (by omega)
    · exact k8 j (.inr (by omega))
  have key : ∀ (m : Nat) (x2 x3 : Int32) (k : Nat), (x2 = 0 ∨ x2 = 1) → (x2 = 0 ↔ ρ = 0 ∧ ∀ j, j < k → j < n → f j = 0) → x3.toInt = k → k + m = 4400 → w_Exact_isBelow_L10 Qr (m + 1) ex c x2 x3 h := by
    intro m
    induction m with
    | zero =>
      intro x2 x3 k hx g e1 e3
      unfold w_Exact_isBelow_L10
      rw [z_le, z_lt, hc, e1, k4]
      refine ⟨fun e => L48 _ k hx g (.inl (by omega)), fun _ => ⟨k1.1, fun e => L48 _ k hx g (.inr (by omega)), fun e => absurd e (by omega)⟩⟩
    | succ m ih =>
      intro x2 x3 k hx g e1 e3
      have ec : x3.toNatClampNeg = k := by rw [z_cl, e1]; rfl
      have K : ∀ y : Int32, (y = 0 ∨ y = 1) → (y = 0 ↔ ρ = 0 ∧ ∀ j, j < k + 1 → j < n → f j = 0) → w_Exact_isBelow_L10 Qr (m + 1) ex c y (x3 + 1) h := fun y hy gy => ih y (x3 + 1) (k + 1) hy gy (z_inc e1 (by omega)) (by omega)
      have gk := k7 k
      unfold w_Exact_isBelow_L10 w_Exact_isBelow_L36 w_Exact_isBelow_L41
      rw [z_le, z_lt, hc, e1, k4]
      refine ⟨fun e => L48 _ k hx g (.inl (by omega)), fun en => ⟨k1.1, fun e => L48 _ k hx g (.inr (by omega)), fun e => ⟨fun c1 => K 1 (.inr rfl) ⟨fun h9 => absurd h9 (by decide), fun h9 => absurd (g.mpr ⟨h9.1, fun j h1 h2 => h9.2 j (by omega) h2⟩) c1⟩, fun c1 => ⟨rw_, k1.2.1, k1.2.2.1, ?_, ?_⟩⟩⟩⟩
      · rw [z_in, e1, k1.2.2.2]
        omega
      · obtain ⟨g1, g2⟩ := g.mp c1
        rw [ec, z_eq (a := xb_i h rw_ k), gk.1, show (0 : Int32).toInt = 0 from rfl]
        refine ⟨fun c2 => K 0 (.inl rfl) ⟨fun _ => ⟨g1, fun j h1 h2 => ?_⟩, fun _ => rfl⟩, fun c2 => K 1 (.inr rfl) ⟨fun h9 => absurd h9 (by decide), fun h9 => ?_⟩⟩
        · rcases Nat.eq_or_lt_of_le (Nat.le_of_lt_succ h1) with h9 | h9
          · rw [h9]; omega
          · exact g2 j h9 h2
        · have := h9.2 k (by omega) (by omega)
          omega
  unfold w_Exact_isBelow
  refine ⟨k1.1, fun v2 e2 v3 e3 => ⟨4400 - lo + 1, key (4400 - lo) v2 v3 lo (by rw [e2]; exact k2) ?_ (by rw [e3]; exact k3) (by omega)⟩⟩
  rw [e2, z_eq, hρ, show (0 : Int32).toInt = 0 from rfl]
  exact ⟨fun h9 => ⟨by omega, fun j h1 _ => k8 j (.inl h1)⟩, fun h9 => by omega⟩
end XF2
