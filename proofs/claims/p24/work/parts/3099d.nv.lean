-- a run: instructions on whole numbers
/-- how many values a numeric instruction takes, their type, its result's -/
def sgN (o : Nat) : Nat := if o ≤ 69 then 1 else if o ≤ 79 then 2 else if o ≤ 80 then 1 else if o ≤ 102 then 2 else if o ≤ 105 then 1 else if o ≤ 120 then 2 else if o ≤ 123 then 1 else if o ≤ 138 then 2 else if o ≤ 145 then 1 else if o ≤ 152 then 2 else if o ≤ 159 then 1 else if o ≤ 166 then 2 else 1
def sgA (o : Nat) : Int := if o ≤ 79 then 127 else if o ≤ 90 then 126 else if o ≤ 96 then 125 else if o ≤ 102 then 124 else if o ≤ 120 then 127 else if o ≤ 138 then 126 else if o ≤ 152 then 125 else if o ≤ 166 then 124 else if o ≤ 167 then 126 else if o ≤ 169 then 125 else if o ≤ 171 then 124 else if o ≤ 173 then 127 else if o ≤ 175 then 125 else if o ≤ 177 then 124 else if o ≤ 179 then 127 else if o ≤ 181 then 126 else if o ≤ 182 then 124 else if o ≤ 184 then 127 else if o ≤ 186 then 126 else if o ≤ 188 then 125 else if o ≤ 189 then 124 else if o ≤ 190 then 127 else 126
def sgR (o : Nat) : Int := if o ≤ 120 then 127 else if o ≤ 138 then 126 else if o ≤ 152 then 125 else if o ≤ 166 then 124 else if o ≤ 171 then 127 else if o ≤ 177 then 126 else if o ≤ 182 then 125 else if o ≤ 187 then 124 else if o ≤ 188 then 127 else if o ≤ 189 then 126 else if o ≤ 190 then 125 else 124
theorem SG_le : ∀ i, i < 30 → SG (4 * i) ≤ 191 := by decide +kernel
theorem SG_tb : ∀ i, i < 30 → ∀ o, o < 192 → (69 ≤ o ∧ (i = 0 ∨ SG (4 * (i - 1)) < (o : Nat)) ∧ ((o : Nat) : Int) ≤ SG (4 * i) → SG (4 * i + 1) = sgN o ∧ SG (4 * i + 2) = sgA o ∧ SG (4 * i + 3) = sgR o) := by decide +kernel
section NU2
variable {own own' ad ad' : Nat → Nat} {h h' h1 : xb_H} {W : wD} {σ D : Nat} {gx : Nat → fG} {t P lcn p0 E g : Nat} {lo ν0 : Nat → Int32} {G : ctG}
theorem ct_LC.nm {n : Nat → Nat} {vs : Nat → Nat → Int64} {cb : Nat → Int32} {B : ctN} {q o : Nat} {cur : List Int} {gs : List gF} (hl : ct_LC n vs cb lo t lcn ν0 G B o q cur gs) (ho : 69 ≤ o) : o < 192 ∧ ∃ c : List Int, cur = List.replicate (sgN o) (sgA o) ++ c ∧ G 0 (q + 1) (sgR o :: c) gs := by
  obtain ⟨i, c, h1, h2, h3, h4, h5⟩ := hl.2.2.2.2.2.2.2.2.2.2.2.2.2.2.2.2.2 (by omega)
  have h6 := SG_le i h1
  obtain ⟨e1, e2, e3⟩ := SG_tb i h1 o (by omega) ⟨ho, (by
    by_cases h9 : i = 0
    · exact .inl h9
    · exact .inr (h2 (i - 1) (by omega))), h3⟩
  rw [e1, e2, Int.toNat_natCast] at h4
  rw [e3] at h5
  exact ⟨by omega, c, h4, h5⟩
theorem mc_compare {x1 : Int32} {o : Nat} {c : List Int} {Qr : xb_H → Prop} (hB : cB own ad h) (hS : mS ad h) (hf : fI ad h) (hr : rX ad h W D gx t P lcn p0 E lo ν0 g G) (hx : x1.toInt = o) (h69 : 69 ≤ o) (ho : o ≤ 102) (hc : gC (gx (D - 1)) = List.replicate (sgN o) (sgA o) ++ c) (hQ : ∀ h' : xb_H, nX own ad h W D gx t P lcn p0 E lo ν0 g G (127 :: c) h' → Qr h') : w_Machine_compare (ad 15) x1 h Qr := by
  have k15 : xb_k h (ad 15) = 8 := hB.k 15 (by omega)
  have k37 : xb_k h (ad 37) = 103 := hB.k 37 (by omega)
  have r9 : xb_r h (ad 15) 9 = some (ad 37) := hB.r (15, 9, 37) (by decide)
  have v01 : vr 127 0 ∧ vr 127 1 := ⟨fun _ => by decide, fun _ => by decide⟩
  unfold w_Machine_compare
  by_cases h9 : o = 69 ∨ o = 80
  · have hn : gC (gx (D - 1)) = sgA o :: c := by
      rw [hc]
      rcases h9 with h9 | h9 <;> rw [h9] <;> rfl
    obtain ⟨p1, p2, p3, p4⟩ := hr.tp1 hS hn
    have L24 : ∀ v5 : Int64, w_Machine_compare_L24 Qr (ad 15) v5 h := by
      intro v5
      unfold w_Machine_compare_L24 w_Machine_compare_L45
      exact ⟨k15, ad 37, r9, fun _ => ⟨k37, p1, fun h3 e3 => by rw [e3]; exact hQ _ (hr.n1 hB hn p3 v01.1)⟩, fun _ => ⟨k37, p1, fun h3 e3 => by rw [e3]; exact hQ _ (hr.n1 hB hn p3 v01.2)⟩⟩
    refine ⟨k15, ad 37, r9, k37, p1, fun v5 e5 => ⟨fun _ => L24 v5, fun e1 => ⟨fun e2 => ?_, fun _ => L24 v5⟩⟩⟩
    rw [z_eq, hx, show (69 : Int32).toInt = 69 from rfl] at e1
    rw [z_eq, hx, show (80 : Int32).toInt = 80 from rfl] at e2
    omega
  · have hn : gC (gx (D - 1)) = sgA o :: sgA o :: c := by
      rw [hc]
      have : sgN o = 2 := by
        unfold sgN
        repeat' split
        all_goals omega
      rw [this]
      rfl
    obtain ⟨p1, p2, p3, p4⟩ := hr.tp1 hS hn
    have S4 := hS.2.2.2
    refine ⟨k15, ad 37, r9, k37, p1, fun v5 e5 => ⟨fun e1 => ?_, fun e1 => ⟨fun e2 h8 e8 => ?_, fun e2 => ?_⟩⟩⟩
    · rw [z_eq, hx, show (69 : Int32).toInt = 69 from rfl] at e1
      omega
    · have i8 : xb_i h8 (ad 15) 10 = xb_i h (ad 15) 10 - 1 := by rw [e8, xh_iI, if_pos rfl, xh_up, if_pos rfl]
      simp only [List.length_cons] at p1 p2 p3
      have q2 : (xb_i h8 (ad 15) 10 - 1).toInt = (gO (gx (D - 1)) + c.length : Nat) := by
        rw [i8, z_sub, p2, show (1 : Int32).toInt = 1 from rfl]
        have := z_in.mp p1
        omega
      have s8 : stp [15] [] own ad own ad h h8 := by rw [e8]; exact stp.Ic hB
      have n8 : xb_n h8 = xb_n h := by rw [e8, xh_nI]
      have q1 : vp_in (xb_i h8 (ad 15) 10 - 1) (xb_n h8 (ad 37)) := by
        rw [z_in, q2, n8]
        have := z_in.mp p1
        omega
      have r98 : xb_r h8 (ad 15) 9 = some (ad 37) := s8.1.r (15, 9, 37) (by decide)
      have f8 : fI ad h8 := hf.st hB s8 (by decide) (fun x hx => by cases hx) (by decide) (by decide)
      have L157 : ∀ r : Int32, w_Machine_compare_L157 Qr (ad 15) r h8 := by
        intro r
        unfold w_Machine_compare_L157 w_Machine_compare_L177
        have fin : ∀ v : Int64, vr 127 v → ∀ h3 : xb_H, h3 = xb_L h8 (ad 37) (xb_i h8 (ad 15) 10 - 1).toNatClampNeg v → Qr h3 := by
          intro v hv h3 e3
          rw [e3, e8]
          refine hQ _ (hr.n2 hB hn ?_ (by rw [p2]; omega) hv)
          rw [← e8, z_cl, q2, Int.toNat_natCast]
        exact ⟨s8.1.k 15 (by omega), ad 37, r98, fun _ => ⟨s8.1.k 37 (by omega), q1, fin 0 v01.1⟩, fun _ => ⟨s8.1.k 37 (by omega), q1, fin 1 v01.2⟩⟩
      exact ⟨ad 37, r98, s8.1.k 37 (by omega), q1, fun v12 e12 => ⟨fun _ => ⟨fun _ => ⟨fun _ => ⟨ad 40, s8.1.r (15, 2, 40) (by decide), f8.2.1, sp_fholds f8.2 (fun r _ => L157 r)⟩, fun _ => ⟨ad 39, s8.1.r (15, 1, 39) (by decide), f8.1.1, sp_fholds f8.1 (fun r _ => L157 r)⟩⟩, fun _ => sp_wholeHolds (fun r _ => L157 r)⟩, fun _ => sp_wholeHolds (fun r _ => L157 r)⟩⟩
    · rw [z_eq, hx, show (80 : Int32).toInt = 80 from rfl] at e2
      omega
end NU2
