-- the reference: constants and what they are worth
/-- a signed number's worth -/
def svl (cb : Nat → Int32) (x1 x4 : Int32) : Nat → Nat → Int64 → Int32 → Int64
  | 0, _, x2, _ => x2
  | m + 1, p, x2, x5 => if 128 ≤ ub cb p then svl cb x1 x4 m (p + 1) (x2 ||| (xb_lshl (Int32.toInt64 (ub cb p &&& 127)) (7 * x5))) (x5 + 1) else (if x1 = 32 then Int32.toInt64 (Int64.toInt32 (if x4 ≤ x5 ∨ (ub cb p &&& 64) = 0 then (x2 ||| (xb_lshl (Int32.toInt64 (ub cb p &&& 127)) (7 * x5))) else (x2 ||| (xb_lshl (Int32.toInt64 (ub cb p &&& 127)) (7 * x5))) ||| (xb_lshl (-1) (7 * (x5 + 1))))) else (if x4 ≤ x5 ∨ (ub cb p &&& 64) = 0 then (x2 ||| (xb_lshl (Int32.toInt64 (ub cb p &&& 127)) (7 * x5))) else (x2 ||| (xb_lshl (Int32.toInt64 (ub cb p &&& 127)) (7 * x5))) ||| (xb_lshl (-1) (7 * (x5 + 1)))))
/-- bytes in a row, the lowest first -/
def byv (cb : Nat → Int32) : Nat → Nat → Int64 → Int32 → Int64
  | 0, _, x, _ => x
  | n + 1, p, x, k => byv cb n (p + 1) (x ||| (xb_lshl (Int32.toInt64 (ub cb p)) (8 * k))) (k + 1)
/-- a constant's worth -/
def cnV (A : Nat → Nat) (h : xb_H) (F : Nat → Nat → Int32) (D : zM) (ip p : Nat) : Int64 :=
  if ub (qc D) p = 35 then xb_l h (A 61) (F (A 33) (ip + ikx D 3 (qt D 2) (cV (qc D) (p + 1)))).toInt.toNat
  else if ub (qc D) p = 65 then svl (qc D) 32 4 5 (p + 1) 0 0 &&& 4294967295
  else if ub (qc D) p = 66 then svl (qc D) 64 9 10 (p + 1) 0 0
  else byv (qc D) (if ub (qc D) p = 67 then 4 else 8) (p + 1) 0 0
section MN2
variable {own : Nat → Nat} {mm m i ip k f t : Nat} {A : Nat → Nat} {h h' h2 : xb_H} {F F' F2 : Nat → Nat → Int32} {v v' v2 v0 cb : Nat → Int32} {D : zM} {DM : Nat → zM} {len rl K st N b e p q E : Nat} {Qr : Int32 → xb_H → Prop} {Ql : Int64 → xb_H → Prop}
theorem m_signedK {x1 x4 : Int32} (hs : rdH mm st N b e cb h F) : ∀ (m : Nat) (x2 : Int64) (x5 : Int32) (v : Nat → Int32) (p : Nat), x4.toInt = x5.toInt + m → 0 ≤ x5.toInt → x4.toInt ≤ 9 → rdP v b p e → v 17 = 0 → rds cb x1 (m + 1) p = some q → q ≤ e → (∀ v', ro v v' p q e → v' 17 = 0 → Ql (svl cb x1 x4 (m + 1) p x2 x5) (mH h F mm v')) → w_M_signed_L19 Ql (m + 1) mm x1 x2 x4 x5 (mH h F mm v) := by
  intro m
  induction m with
  | zero =>
    intro x2 x5 v p e1 e2 e3 hp hz hr hq hQ
    have rb := rds_b hr
    have le : x4 ≤ x5 := by rw [z_le]; omega
    unfold rds at hr
    split at hr
    · cases hr
    · rename_i hc
      have hc' : ((x1 = 32 ∧ (ub cb p < 8 ∨ (¬ ub cb p < 120 ∧ ¬ 128 ≤ ub cb p))) ∨ (¬ x1 = 32 ∧ (ub cb p = 0 ∨ ub cb p = 127))) := by
        rcases Classical.em ((x1 = 32 ∧ (ub cb p < 8 ∨ (¬ ub cb p < 120 ∧ ¬ 128 ≤ ub cb p))) ∨ (¬ x1 = 32 ∧ (ub cb p = 0 ∨ ub cb p = 127))) with h9 | h9
        · exact h9
        · exact absurd ⟨rfl, h9⟩ hc
      split at hr
      · cases hr
      · rename_i h128
        simp only [Option.some.injEq] at hr
        subst hr
        unfold w_M_signed_L19
        refine ⟨fun h9 => by rw [z_lt] at h9; omega, fun h9 => ⟨hs.1, m_next_k hs hp hz (by omega) (fun v1 o1 z1 _ => ?_)⟩⟩
        have fin := hQ v1 o1 z1
        unfold svl at fin
        rw [if_neg h128, if_pos (Or.inl le : x4 ≤ x5 ∨ (ub cb p &&& 64) = 0)] at fin
        have L112 : w_M_signed_L112 (w_M_signed_L19 Ql 0) Ql mm x1 x2 x4 x5 (ub cb p) (mH h F mm v1) := by
          unfold w_M_signed_L112 w_M_signed_L163 w_M_signed_L164 w_M_signed_L188 w_M_signed_L202
          rw [mH_i]
          refine ⟨hs.1, fun _ v3 e9 => ⟨fun h8 => absurd h8 h128, fun _ => ⟨fun _ => ⟨fun _ => ⟨fun k1 => ?_, fun k1 => ?_⟩, fun h0 => absurd rfl h0⟩, fun h8 => absurd le h8⟩⟩, fun hn => absurd z1 hn⟩
          · rw [if_neg k1] at fin
            rw [e9]
            exact fin
          · rw [if_pos k1] at fin
            rw [e9]
            exact fin
        have L82 : w_M_signed_L82 (w_M_signed_L19 Ql 0) Ql mm x1 x2 x4 x5 (ub cb p) (mH h F mm v1) := by
          unfold w_M_signed_L82 w_M_signed_L87
          rw [mH_i]
          exact ⟨hs.1, fun _ => L112, fun _ => ⟨fun _ => L112, fun h0 => absurd h0 (by decide)⟩⟩
        refine ⟨fun h8 => by rw [z_lt] at h8; omega, fun _ => ⟨fun k1 => ⟨fun _ => L82, fun k2 => ⟨fun k3 => ?_, fun _ => L82⟩⟩, fun k1 => ⟨fun _ => L82, fun k2 => ⟨fun k3 => ?_, fun k3 => ⟨fun k4 => absurd k4 h128, fun _ => L82⟩⟩⟩⟩⟩
        · exfalso
          rcases hc' with h9 | h9
          · exact k1 h9.1
          · exact h9.2.elim k2 k3
        · exfalso
          rcases hc' with h9 | h9
          · exact h9.2.elim k2 (fun h => h.1 k3)
          · exact h9.1 k1
  | succ m ih =>
    intro x2 x5 v p e1 e2 e3 hp hz hr hq hQ
    have rb := rds_b hr
    have lt : x5 < x4 := by rw [z_lt]; omega
    have nle : ¬ x4 ≤ x5 := by rw [z_le]; omega
    have hr' : (128 ≤ ub cb p → rds cb x1 (m + 1) (p + 1) = some q) ∧ (¬ 128 ≤ ub cb p → q = p + 1) := by
      unfold rds at hr
      rw [if_neg (fun h9 => by omega)] at hr
      constructor
      · intro h9
        rw [if_pos h9] at hr
        exact hr
      · intro h9
        rw [if_neg h9] at hr
        simp only [Option.some.injEq] at hr
        exact hr.symm
    unfold w_M_signed_L19
    refine ⟨fun h9 => by rw [z_lt] at h9; omega, fun h9 => ⟨hs.1, m_next_k hs hp hz (by omega) (fun v1 o1 z1 _ => ⟨fun _ => ?_, fun h8 => absurd lt h8⟩)⟩⟩
    have e5 : (x5 + 1).toInt = x5.toInt + 1 := by
      rw [z_add]
      simp only [Int32.reduceToInt]
      omega
    have L112 : w_M_signed_L112 (w_M_signed_L19 Ql (m + 1)) Ql mm x1 x2 x4 x5 (ub cb p) (mH h F mm v1) := by
      unfold w_M_signed_L112 w_M_signed_L163 w_M_signed_L164 w_M_signed_L188 w_M_signed_L202
      rw [mH_i]
      refine ⟨hs.1, fun _ v3 e9 => ⟨fun h8 => ?_, fun h8 => ?_⟩, fun hn => absurd z1 hn⟩
      · refine ih v3 (x5 + 1) v1 (p + 1) (by omega) (by omega) e3 (o1.P hp) z1 (hr'.1 h8) hq (fun v2 o2 z2 => ?_)
        have fin := hQ v2 (o1.tr o2) z2
        conv at fin =>
          arg 1
          unfold svl
        rw [if_pos h8] at fin
        rw [e9]
        exact fin
      · have eq := hr'.2 h8
        subst eq
        have fin := hQ v1 o1 z1
        unfold svl at fin
        rw [if_neg h8] at fin
        refine ⟨fun h7 => absurd h7 nle, fun _ => ⟨fun k0 => ⟨fun _ => ⟨fun k1 => ?_, fun k1 => ?_⟩, fun h0 => absurd rfl h0⟩, fun k0 => ⟨fun h0 => absurd h0 (by decide), fun _ => ⟨fun k1 => ?_, fun k1 => ?_⟩⟩⟩⟩
        · rw [if_pos (Or.inr k0 : x4 ≤ x5 ∨ (ub cb p &&& 64) = 0), if_neg k1] at fin
          rw [e9]
          exact fin
        · rw [if_pos (Or.inr k0 : x4 ≤ x5 ∨ (ub cb p &&& 64) = 0), if_pos k1] at fin
          rw [e9]
          exact fin
        · rw [if_neg (fun h => h.elim nle k0 : ¬ (x4 ≤ x5 ∨ (ub cb p &&& 64) = 0)), if_neg k1] at fin
          rw [e9]
          exact fin
        · rw [if_neg (fun h => h.elim nle k0 : ¬ (x4 ≤ x5 ∨ (ub cb p &&& 64) = 0)), if_pos k1] at fin
          rw [e9]
          exact fin
    unfold w_M_signed_L82 w_M_signed_L87
    rw [mH_i]
    exact ⟨hs.1, fun _ => L112, fun _ => ⟨fun _ => L112, fun h0 => absurd h0 (by decide)⟩⟩
/-- a constant is read and worked out -/
theorem m_constant {x1 : Int32} (hX : mX own mm A h F m D) (hi : i < 24) (h1 : x1.toInt = i) (hm : (F (A 31) i).toInt = m) (hp : (F (A 32) i).toInt = ip) (hrl : xb_n h (A 33) = rl ∧ rl ≤ 512000) (hr : ip + qt D 2 ≤ rl) (hres : ∀ j, j < qt D 2 → (ub (qc D) (kpo D j)).toInt = 3 → ∃ g : Nat, (F (A 33) (ip + j)).toInt = g ∧ g < 4096) (hc : ckE D p E) (hE : E ≤ qe D) (hk : vk v0 v D p) (hQ : ∀ v', vk v0 v' D E → Ql (cnV A h F D ip p) (mH h F mm v')) : w_M_constant mm x1 (mH h F mm v) Ql := by
  have hB := hX.1
  obtain ⟨q, q1, q2, q3⟩ := hc
  have hs := hX.rd
  obtain ⟨-, kb, kP, kz⟩ := id hk
  have kp1 := kP.2.2.1
  have hpq : p < q := by
    rcases q3 with ⟨-, x, c1, -⟩ | ⟨op, o1, o2, o3, o4⟩
    · have := rC_b c1; omega
    · have := rW_b o4; omega
  -- the end
  have L142 : ∀ (u : Nat → Int32) (z : Int64), vk v0 u D q → z = cnV A h F D ip p → w_M_constant_L142 Ql mm z (mH h F mm u) := by
    intro u z ku ez
    unfold w_M_constant_L142
    refine ⟨hB.2.1, m_next_k hs ku.2.2.1 ku.2.2.2 (by omega) (fun v' o' z' _ => ?_)⟩
    rw [ez]
    have := ku.go o' z'
    rw [q1] at this
    exact hQ v' this
  unfold w_M_constant
  refine ⟨hB.2.1, m_next_k hs kP kz (by omega) (fun v1 o1 z1 _ => ?_)⟩
  have K1 := hk.go o1 z1
  rcases q3 with ⟨e35, x, c1, c2⟩ | ⟨op, d1, d2, d3, d4⟩
  · refine ⟨fun h9 => absurd e35 h9, fun _ => ?_⟩
    have rb := rC_b c1
    obtain ⟨E1, E2⟩ := rC_E c1
    have bi := hX.2.2.ib (κ := 3)
    have hk3 : cV (qc D) (p + 1) < iM D 3 := by rw [E2]; omega
    obtain ⟨a1, a2, a3, a4⟩ := hB.kx (k := 31) (kd := 102) (n := 24) (by decide) (by decide)
    obtain ⟨b1, b2, b3, b4⟩ := hB.kx (k := 61) (kd := 103) (n := 4096) (by decide) (by decide)
    refine m_count_k hs K1.2.2.1 z1 c1 (by omega) (fun v2 o2 z2 _ v9 e9 v10 e10 => ⟨A 31, a1, a2, ?_, fun v14 e14 => ⟨A 61, b1, ?_⟩⟩)
    · rw [z_in, h1]
      show _ ∧ _ < ((xb_n h (A 31) : Nat) : Int)
      omega
    · have K2 := K1.go o2 z2
      rw [mH_o a4, z_cl, h1, Int.toNat_natCast] at e14
      rw [mH_i] at e10
      have e9' : v9.toInt = (cV (qc D) (p + 1) : Nat) := by rw [e9, z_of64, E2]; omega
      refine m_meantI hrl hX z2 h1 hi (κ := 3) rfl (by decide) e9' hm hp hk3 hr (fun v3 g3 z3 i1 i2 _ => ?_)
      obtain ⟨g, g1, g2⟩ := hres _ i1 (by rw [i2]; rfl)
      refine ⟨b2, ?_, fun v20 e20 => m_go_k hX z3 (by rw [e14]; exact hm) (p := q) (by rw [e10]; exact o2.2.1) (by omega) (by omega) (fun v4 k4 _ => L142 v4 v20 ⟨(K2.1.tr g3).tr k4.1, k4.2.1, k4.2.2.1, k4.2.2.2⟩ ?_)⟩
      · rw [z_in, g1]
        show _ ∧ _ < ((xb_n h (A 61) : Nat) : Int)
        omega
      · rw [e20]
        unfold cnV
        rw [if_pos e35]
        show xb_l h (A 61) _ = _
        rw [z_cl]
  · have eop : ub (qc D) p = Int32.ofInt op := by
      rw [z_eq, d1, z_ofI (by omega) (by omega)]
    have n35 : ¬ ub (qc D) p = 35 := fun h9 => by
      rw [h9] at d1
      have : (35 : Int32).toInt = 35 := rfl
      omega
    refine ⟨fun _ => ⟨fun hgt => ?_, fun hle => ⟨fun n65 => ?_, fun e65 => ?_⟩⟩, fun h9 => absurd h9 n35⟩
    · -- bytes
      rw [z_lt, d1] at hgt
      simp only [Int32.reduceToInt] at hgt
      obtain ⟨nb, hnb⟩ : ∃ nb : Nat, nb = (if ub (qc D) p = 67 then 4 else 8) := ⟨_, rfl⟩
      have hnb8 : nb ≤ 8 := by
        rw [hnb]
        split <;> decide
      have n65 : ¬ ub (qc D) p = 65 := fun h9 => by
        rw [h9] at d1
        have : (65 : Int32).toInt = 65 := rfl
        omega
      have n66 : ¬ ub (qc D) p = 66 := fun h9 => by
        rw [h9] at d1
        have : (66 : Int32).toInt = 66 := rfl
        omega
      have eqn : q = p + 1 + nb := by
        by_cases h67 : ub (qc D) p = 67
        · have : op = 67 := by
            rw [h67] at d1
            have : (67 : Int32).toInt = 67 := rfl
            omega
          subst this
          rw [hnb, if_pos h67]
          exact d4.2.2.2.2.2.2.2.2.2.1 rfl
        · have : op = 68 := by
            have : op ≠ 67 := fun h9 => h67 (by rw [eop, h9]; rfl)
            omega
          subst this
          rw [hnb, if_neg h67]
          exact d4.2.2.2.2.2.2.2.2.2.2.1 rfl
      have hval : cnV A h F D ip p = byv (qc D) nb (p + 1) 0 0 := by
        unfold cnV
        rw [if_neg n35, if_neg n65, if_neg n66, ← hnb]
      have lp : ∀ (n k pp : Nat) (x3 : Int64) (x5 : Int32) (u : Nat → Int32), k + n = nb → x5.toInt = k → pp = p + 1 + k → vk v0 u D pp → byv (qc D) n pp x3 x5 = cnV A h F D ip p → w_M_constant_L105 Ql (n + 1) mm (ub (qc D) p) x3 x5 (mH h F mm u) := by
        intro n
        induction n with
        | zero =>
          intro k pp x3 x5 u hkn hx5 hpp hu hv
          have epp : pp = q := by omega
          rw [epp] at hu
          unfold w_M_constant_L105 w_M_constant_L119
          refine ⟨fun n67 => ⟨fun _ => L142 u x3 hu hv, fun hle => ?_⟩, fun e67 => ⟨fun _ => L142 u x3 hu hv, fun hle => ?_⟩⟩
          · rw [if_neg n67] at hnb
            rw [z_le, hx5] at hle
            simp only [Int32.reduceToInt] at hle
            omega
          · rw [if_pos e67] at hnb
            rw [z_le, hx5] at hle
            simp only [Int32.reduceToInt] at hle
            omega
        | succ n ih =>
          intro k pp x3 x5 u hkn hx5 hpp hu hv
          have step : xb_k (mH h F mm u) mm = 9 ∧ w_M_next mm (mH h F mm u) (fun (r4 : Int32) (h3 : xb_H) => xb_ext (mH h F mm u) h3 → ∀ v5 : Int64, v5 = (x3 ||| (xb_lshl (Int32.toInt64 r4) (8 * x5))) → w_M_constant_L105 Ql (n + 1) mm (ub (qc D) p) v5 (x5 + 1) h3) := by
            refine ⟨hB.2.1, m_next_k hs hu.2.2.1 hu.2.2.2 (by omega) (fun v' o' z' _ v5 e5 => ?_)⟩
            subst e5
            exact ih (k + 1) (pp + 1) _ (x5 + 1) v' (by omega) (z_inc hx5 (by omega)) (by omega) (hu.go o' z') hv
          unfold w_M_constant_L105 w_M_constant_L119
          refine ⟨fun n67 => ⟨fun hle => ?_, fun _ => step⟩, fun e67 => ⟨fun hle => ?_, fun _ => step⟩⟩
          · rw [if_neg n67] at hnb
            rw [z_le, hx5] at hle
            simp only [Int32.reduceToInt] at hle
            omega
          · rw [if_pos e67] at hnb
            rw [z_le, hx5] at hle
            simp only [Int32.reduceToInt] at hle
            omega
      exact ⟨nb + 1, lp nb 0 (p + 1) 0 0 v1 (by omega) rfl (by omega) K1 hval.symm⟩
    · rw [z_lt, d1] at hle
      simp only [Int32.reduceToInt] at hle
      have e66 : op = 66 := by
        have : op ≠ 65 := fun h9 => n65 (by rw [eop, h9]; rfl)
        omega
      subst e66
      have u66 : ub (qc D) p = 66 := by rw [eop]; rfl
      have hrd : rds (qc D) 64 10 (p + 1) = some q := d4.2.2.2.2.2.2.2.2.1 rfl
      unfold w_M_constant_L79 w_M_signed w_M_signed_L14
      refine ⟨hB.2.1, fun _ => ⟨9 + 1, m_signedK hs 9 0 0 v1 (p + 1) rfl (by decide) (by decide) K1.2.2.1 z1 hrd (by omega) (fun v2 o2 z2 _ => ⟨fun _ => ?_, fun h9 => absurd h9 n65⟩)⟩, fun h9 => absurd h9 (by decide)⟩
      unfold w_M_constant_L98
      refine L142 v2 _ (K1.go o2 z2) ?_
      unfold cnV
      rw [if_neg n35, if_neg n65, if_pos u66]
    · have e65' : op = 65 := by
        rw [e65] at d1
        have : (65 : Int32).toInt = 65 := rfl
        omega
      subst e65'
      have hrd : rds (qc D) 32 5 (p + 1) = some q := d4.2.2.2.2.2.2.2.1 rfl
      unfold w_M_constant_L79 w_M_signed w_M_signed_L14
      refine ⟨hB.2.1, fun h9 => absurd rfl h9, fun _ => ⟨4 + 1, m_signedK hs 4 0 0 v1 (p + 1) rfl (by decide) (by decide) K1.2.2.1 z1 hrd (by omega) (fun v2 o2 z2 _ => ⟨fun h9 => absurd e65 h9, fun _ => ?_⟩)⟩⟩
      unfold w_M_constant_L98
      refine L142 v2 _ (K1.go o2 z2) ?_
      unfold cnV
      rw [if_neg n35, if_pos e65]
theorem m_refuseE {x1 x2 : Int32} (hB : mB own mm A h) (hQ : Qr (-1) (mH h (va_up F (A 89) (va_up (va_up (F (A 89)) 0 x1) 1 x2)) mm v)) : w_M_refuse mm x1 x2 (mH h F mm v) Qr := by
  obtain ⟨b1, b2, b3, b4⟩ := hB.kx (k := 89) (kd := 102) (n := 2) (by decide) (by decide)
  unfold w_M_refuse
  refine ⟨hB.2.1, A 89, b1, b2, ?_, fun h5 e5 => ?_⟩
  · rw [z_in]
    show _ ∧ _ < ((xb_n h (A 89) : Nat) : Int)
    rw [b3]
    decide
  · rw [mH_A b4] at e5
    subst e5
    refine ⟨A 89, b1, b2, ?_, fun h9 e9 => ?_⟩
    · rw [z_in]
      show _ ∧ _ < ((xb_n h (A 89) : Nat) : Int)
      rw [b3]
      decide
    · rw [mH_AA b4] at e9
      subst e9
      exact hQ
theorem m_refuse {x1 x2 : Int32} (hB : mB own mm A h) (hQ : ∀ w : Nat → Int32, Qr (-1) (mH h (va_up F (A 89) w) mm v)) : w_M_refuse mm x1 x2 (mH h F mm v) Qr :=
  m_refuseE hB (hQ _)
/-- a module's own least and most of a table (4) or memory (5) -/
def olV (D : zM) (s : Nat) (r y : Int64) : Prop := (qt D s = 0 ∧ r = 0 ∧ y = -1) ∨ (0 < qt D s ∧ r.toInt = cV (qc D) (qp D s 0 + (if s = 4 then 1 else 0) + 1) ∧ y.toInt = lsM (qc D) (qp D s 0 + (if s = 4 then 1 else 0)))
theorem cV_32 {cb : Nat → Int32} {p : Nat} : cV cb p < 4294967296 := by
  unfold cV
  cases h9 : rC cb p with
  | none => exact (by decide : 0 < 4294967296)
  | some z =>
    obtain ⟨q, x⟩ := z
    have := rC_b h9
    show x.toInt.toNat < 4294967296
    omega
theorem m_ownLeastE {x1 x2 : Int32} {s : Nat} (hX : mX own mm A h F m D) (hz : v 17 = 0) (h1 : x1.toInt = m) (h2 : x2.toInt = s) (hs : s = 4 ∨ s = 5) (hQ : ∀ (v' : Nat → Int32) (r y : Int64), vg v v' → v' 17 = 0 → olV D s r y → Ql r (mH (xb_L h mm 91 y) F mm v')) : w_M_ownLeast mm x1 x2 (mH h F mm v) Ql := by
  have hB := hX.1
  have hs12 : s < 12 := by omega
  unfold w_M_ownLeast
  refine ⟨hB.2.1, m_manyOf hX h1 h2 hs12 (fun r hr _ => ⟨fun hn => ?_, fun he h8 e8 => ?_⟩)⟩
  · have h0 : 0 < qt D s := by
      rcases Nat.eq_zero_or_pos (qt D s) with h9 | h9
      · exact absurd (by rw [z_eq, hr, h9]; rfl) hn
      · exact h9
    obtain ⟨c1, q, rs, c3⟩ := (hX.2.2.2.2.2.1 s hs12).2 0 h0
    have tail : ∀ (y0 y1 : Int32) (p : Nat), (y1 + y0).toInt = p → qb D ≤ p → rLim (qc D) p q → p = qp D s 0 + (if s = 4 then 1 else 0) → w_M_ownLeast_L37 Ql mm y0 y1 x1 mm (mH h F mm v) := by
      intro y0 y1 p hp hb hl hpe
      have lb := rLim_b hl
      unfold w_M_ownLeast_L37
      exact ⟨hB.2.1, m_go_k hX hz h1 hp hb (by omega) (fun v1 k1 _ => ⟨hB.2.1, x_leastRead hX.rd k1.2.2.1 k1.2.2.2 hl c3 (fun v2 r2 y o2 z2 rL yM _ => hQ v2 r2 y (k1.1.tr o2.vg) z2 (.inr ⟨h0, by rw [rL, hpe], by rw [yM, hpe]; rfl⟩))⟩)⟩
    refine m_placeOf hX h1 h2 hs12 (k := 0) rfl h0 (fun r6 e6 _ => ⟨fun n4 => ?_, fun e4 => ?_⟩)
    · have e5 : s = 5 := by
        rcases hs with e | e
        · exact absurd (by rw [z_eq, h2, e]; rfl) n4
        · exact e
      subst e5
      refine tail 0 r6 (qp D 5 0) ?_ c1 rs rfl
      rw [z_add, e6]
      have hE := hX.2.2.2.2.1
      have lb := rLim_b rs
      simp only [Int32.reduceToInt]
      omega
    · have e5 : s = 4 := by
        rw [e4] at h2
        have : (4 : Int32).toInt = 4 := rfl
        omega
      subst e5
      have hE := hX.2.2.2.2.1
      have lb := rLim_b rs.2
      exact tail 1 r6 (qp D 4 0 + 1) (z_inc e6 (by omega)) (by omega) rs.2 rfl
  · have e8' : h8 = mH (xb_L h mm 91 (-1)) F mm v := e8
    subst e8'
    refine hQ v 0 (-1) vg.rf hz (.inl ⟨?_, rfl, rfl⟩)
    rw [he] at hr
    have : (0 : Int32).toInt = 0 := rfl
    omega
theorem m_ownLeast {x1 x2 : Int32} {s : Nat} (hX : mX own mm A h F m D) (hz : v 17 = 0) (h1 : x1.toInt = m) (h2 : x2.toInt = s) (hs : s = 4 ∨ s = 5) (hQ : ∀ (v' : Nat → Int32) (h' : xb_H) (r : Int64), vg v v' → v' 17 = 0 → lq mm h h' → 0 ≤ r.toInt → r.toInt < 4294967296 → Ql r (mH h' F mm v')) : w_M_ownLeast mm x1 x2 (mH h F mm v) Ql :=
  m_ownLeastE hX hz h1 h2 hs (fun v' r y g1 g2 g3 => by
    refine hQ v' _ r g1 g2 lq.L ?_ ?_
    · rcases g3 with ⟨-, e, -⟩ | ⟨-, e, -⟩
      · rw [e]; decide
      · rw [e]; omega
    · rcases g3 with ⟨-, e, -⟩ | ⟨-, e, -⟩
      · rw [e]; decide
      · rw [e]
        have := @cV_32 (qc D) (qp D s 0 + (if s = 4 then 1 else 0) + 1)
        omega)
end MN2
