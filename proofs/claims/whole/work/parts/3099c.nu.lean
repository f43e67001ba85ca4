-- a run: numeric instructions
/-- both formats -/
def fI (ad : Nat → Nat) (h : xb_H) : Prop := fm h (ad 39) 125 ∧ fm h (ad 40) 124
section NU1
variable {own own' ad ad' : Nat → Nat} {h h' h1 : xb_H} {W : wD} {σ D : Nat} {gx : Nat → fG} {t P lcn p0 E g : Nat} {lo ν0 : Nat → Int32} {G : ctG}
theorem fm.sm {F : Nat} {τ : Int} (hf : fm h F τ) (s : xh_sm h h' F) (he : xb_ext h h') : fm h' F τ := by
  obtain ⟨f1, f2⟩ := hf
  refine ⟨he.k (c := 5) f1, ?_⟩
  rw [s.1, s.2.1]
  exact f2
theorem fI.st {C X : List Nat} (hf : fI ad h) (hB : cB own ad h) (s : stp C X own ad own' ad' h h') (hC : ∀ k ∈ C, k < 41) (hX : ∀ x ∈ X, ∀ k, k < 41 → x ≠ ad k) (h1 : 39 ∉ C) (h2 : 40 ∉ C) : fI ad' h' := by
  obtain ⟨e1, s1⟩ := s.cm hB hC hX (k := 39) (by omega) h1
  obtain ⟨e2, s2⟩ := s.cm hB hC hX (k := 40) (by omega) h2
  exact ⟨by rw [e1]; exact hf.1.sm s1 s.2.2.2.1, by rw [e2]; exact hf.2.sm s2 s.2.2.2.1⟩
/-- topmost values are replaced by one -/
theorem rX.set {τ : Int} {pre c : List Int} {v : Int64} (hr : rX ad h W D gx t P lcn p0 E lo ν0 g G) (hc : gC (gx (D - 1)) = pre ++ c) (hp : 0 < pre.length) (ei : ∀ j, j ≠ 10 → xb_i h' (ad 15) j = xb_i h (ad 15) j) (er : xb_r h' (ad 15) = xb_r h (ad 15)) (e38 : xb_i h' (ad 38) = xb_i h (ad 38)) (n37 : xb_n h' (ad 37) = xb_n h (ad 37)) (el : xb_l h' (ad 37) = va_up (xb_l h (ad 37)) (gO (gx (D - 1)) + c.length) v) (et : (xb_i h' (ad 15) 10).toInt = (gO (gx (D - 1)) + c.length + 1 : Nat)) (hv : vr τ v) : rX ad h' W D (va_up gx (D - 1) (gR_ (gx (D - 1)) (gA (gx (D - 1))) (τ :: c))) t P lcn p0 E lo ν0 g G := by
  obtain ⟨-, ⟨t1, t2, -⟩, -, ⟨a, a5, b1, b2, b3, b7, b5, b6⟩, -, -⟩ := id hr
  rw [hc] at b6 b7
  rw [vst.app] at b6
  simp only [List.length_append] at b7
  refine hr.go (fun j j1 _ => ei j j1) er e38 n37 (fun j hj => by rw [el, xh_up, if_neg (by omega)]) (by simpa [Nat.add_assoc] using et) (by rw [ei 15 (by omega)]; exact t2) (by simp only [List.length_cons]; omega) (fun i hi => by rw [el, xh_up, if_neg (by omega)]; exact b5 i hi) ⟨?_, b6.2.cg (fun j j1 j2 => by rw [el, xh_up, if_neg (by omega)])⟩
  rw [el, xh_up, if_pos rfl]
  exact hv
/-- at another place -/
theorem rX.at {a' : Nat} {gs : List gF} {z : Int32} (hB : cB own ad h) (hr : rX ad h W D gx t P lcn p0 E lo ν0 g G) (hG : G 0 a' (gC (gx (D - 1))) gs) (hz : z.toInt = a') : oR ad h ad (xb_I h (ad 15) 15 z) W (.inl (D, va_up gx (D - 1) (gT_ (gx (D - 1)) a' (gC (gx (D - 1))) gs), xb_l h (ad 37))) := by
  obtain ⟨-, ⟨t1, t2, -⟩, -, ⟨a, a5, b1, b2, b3, b7, b5, b6⟩, -, -⟩ := id hr
  have n15 : ad 38 ≠ ad 15 := hB.ne (by omega) (by omega) (by omega)
  have n36 : ad 36 ≠ ad 15 := hB.ne (by omega) (by omega) (by omega)
  exact hr.oT hG (fun j j1 j2 => by rw [xh_iI, if_pos rfl, xh_up, if_neg j2]) (by rw [xh_rI]) (by rw [xh_iI, if_neg n15]) (by rw [xh_nI]) (fun j _ => by rw [xh_lI]) (by rw [xh_iI, if_pos rfl, xh_up, if_neg (by omega)]; exact t1) (by rw [xh_iI, if_pos rfl, xh_up, if_pos rfl]; exact hz) (by rw [xh_lI]; exact b6) (fun j _ => by rw [xh_lI]) (by rw [xh_lI]) (by rw [xh_iI, if_neg n36])
theorem rX.fall {x : Int32} {κ : Int} {Qr : xb_H → Prop} (hB : cB own ad h) (hW : wI own ad h W σ) (hS : mS ad h) (hr : rX ad h W D gx t P lcn p0 E lo ν0 g G) (hκ : x.toInt = κ) (hQ : ∀ h' : xb_H, stp [15, 36] [] own ad own ad h h' → oR ad h ad h' W (trD κ D gx (gA (gx (D - 1)))) → Qr h') : w_Machine_fall (ad 15) x h Qr := by
  obtain ⟨⟨d1, d2, d3, d4, d5⟩, ⟨t1, t2, t3, t4, t5, t6, t7⟩, -, ⟨a, a5, -⟩, -, -⟩ := id hr
  obtain ⟨l5, ⟨⟨q1, q2, q3, q4, q5⟩, -⟩⟩ := hW.2.2.2.2.2.2.1.2.2.2 _ a5
  obtain ⟨-, y1, -, -⟩ := a
  refine mc_fall (z := trZ κ D gx (gA (gx (D - 1)))) hB hS d4 d2 (fun _ => ⟨_, t5, q1, hB.n1 (by omega) q2, ?_⟩) hκ (fun h9 => by omega) (fun _ => ?_) hQ
  · unfold trZ
    rw [if_neg (by omega)]
    exact q3
  · unfold trZ
    rw [if_neg (by omega)]
    exact ⟨y1, t2⟩
/-- an instruction that leaves c' where it stands, or falls -/
def nX (own ad : Nat → Nat) (h : xb_H) (W : wD) (D : Nat) (gx : Nat → fG) (t P lcn p0 E : Nat) (lo ν0 : Nat → Int32) (g : Nat) (G : ctG) (κ : Nat) (y : Int64) (c' : List Int) (h' : xb_H) : Prop :=
  stp [15, 36, 37] [] own ad own ad h h' ∧ ((κ ≠ 0 ∧ oR ad h ad h' W (trD κ D gx (gA (gx (D - 1))))) ∨ (κ = 0 ∧ rX ad h' W D (va_up gx (D - 1) (gR_ (gx (D - 1)) (gA (gx (D - 1))) c')) t P lcn p0 E lo ν0 g G ∧ (xb_l h' (ad 15) = xb_l h (ad 15) ∧ xb_i h' (ad 15) 7 = xb_i h (ad 15) 7 ∧ xb_i h' (ad 36) = xb_i h (ad 36)) ∧ xb_l h' (ad 37) = va_up (xb_l h (ad 37)) (gO (gx (D - 1)) + c'.length - 1) y))
theorem rX.nf {x : Int32} {κ : Nat} {y : Int64} {c' : List Int} {Qr : xb_H → Prop} (hB : cB own ad h) (hW : wI own ad h W σ) (hS : mS ad h) (hr : rX ad h W D gx t P lcn p0 E lo ν0 g G) (hx : x.toInt = κ) (hκ : κ ≠ 0) (hQ : ∀ h' : xb_H, nX own ad h W D gx t P lcn p0 E lo ν0 g G κ y c' h' → Qr h') : w_Machine_fall (ad 15) x h Qr :=
  hr.fall hB hW hS hx (fun h' s f1 => hQ h' ⟨s.mono (by decide) (fun k hk => hk), .inl ⟨hκ, f1⟩⟩)
/-- one value in the place of the topmost one -/
theorem rX.n1 {τ τ' : Int} {c : List Int} {v : Int64} {p : Nat} (hB : cB own ad h) (hr : rX ad h W D gx t P lcn p0 E lo ν0 g G) (hc : gC (gx (D - 1)) = τ' :: c) (hp : p = gO (gx (D - 1)) + c.length) (hv : vr τ v) : nX own ad h W D gx t P lcn p0 E lo ν0 g G 0 v (τ :: c) (xb_L h (ad 37) p v) := by
  obtain ⟨-, ⟨t1, -⟩, -⟩ := id hr
  have n1 : ad 38 ≠ ad 37 := hB.ne (by omega) (by omega) (by omega)
  subst hp
  have n2 : ad 15 ≠ ad 37 := hB.ne (by omega) (by omega) (by omega)
  refine ⟨(stp.Lc hB).mono (by decide) (fun k hk => hk), .inr ⟨rfl, hr.set (pre := [τ']) (by rw [hc]; rfl) (by simp) (fun j _ => rfl) rfl rfl rfl (by rw [xh_lL, if_pos rfl]) ?_ hv, ⟨by rw [xh_lL, if_neg n2], rfl, rfl⟩, by rw [xh_lL, if_pos rfl]; rfl⟩⟩
  rw [hc] at t1
  rw [xh_iL, t1]
  rfl
/-- one value in the place of the two topmost ones -/
theorem rX.n2 {τ τ' τ'' : Int} {c : List Int} {v : Int64} {p : Nat} {z : Int32} (hB : cB own ad h) (hr : rX ad h W D gx t P lcn p0 E lo ν0 g G) (hc : gC (gx (D - 1)) = τ' :: τ'' :: c) (hp : p = gO (gx (D - 1)) + c.length) (hz : z.toInt = (gO (gx (D - 1)) + c.length + 1 : Nat)) (hv : vr τ v) : nX own ad h W D gx t P lcn p0 E lo ν0 g G 0 v (τ :: c) (xb_L (xb_I h (ad 15) 10 z) (ad 37) p v) := by
  have n1 : ad 38 ≠ ad 15 := hB.ne (by omega) (by omega) (by omega)
  have s1 : stp [15] [] own ad own ad h (xb_I h (ad 15) 10 z) := stp.Ic hB
  subst hp
  have n2 : ad 15 ≠ ad 37 := hB.ne (by omega) (by omega) (by omega)
  have n3 : ad 36 ≠ ad 15 := hB.ne (by omega) (by omega) (by omega)
  refine ⟨(s1.tr (stp.Lc s1.1)).mono (by decide) (fun k hk => by simpa using hk), .inr ⟨rfl, hr.set (pre := [τ', τ'']) (by rw [hc]; rfl) (by simp) (fun j j1 => ?_) rfl ?_ rfl (by rw [xh_lL, if_pos rfl, xh_lI]) ?_ hv, ⟨by rw [xh_lL, if_neg n2, xh_lI], by rw [xh_iL, xh_iI, if_pos rfl, xh_up, if_neg (by omega)], by rw [xh_iL, xh_iI, if_neg n3]⟩, by rw [xh_lL, if_pos rfl, xh_lI]; rfl⟩⟩
  · rw [xh_iL, xh_iI, if_pos rfl, xh_up, if_neg j1]
  · rw [xh_iL, xh_iI, if_neg n1]
  · rw [xh_iL, xh_iI, if_pos rfl, xh_up, if_pos rfl]
    exact hz
/-- what lies at the top -/
theorem rX.tp1 {τ : Int} {c : List Int} (hr : rX ad h W D gx t P lcn p0 E lo ν0 g G) (hS : mS ad h) (hc : gC (gx (D - 1)) = τ :: c) : vp_in (xb_i h (ad 15) 10 - 1) (xb_n h (ad 37)) ∧ (xb_i h (ad 15) 10 - 1).toInt = (gO (gx (D - 1)) + c.length : Nat) ∧ (xb_i h (ad 15) 10 - 1).toNatClampNeg = gO (gx (D - 1)) + c.length ∧ vr τ (xb_l h (ad 37) (gO (gx (D - 1)) + c.length)) := by
  obtain ⟨-, ⟨t1, -⟩, -, ⟨a, a5, b1, b2, b3, b7, b5, b6⟩, -, -⟩ := id hr
  have S4 := hS.2.2.2
  rw [hc] at t1 b6 b7
  simp only [List.length_cons] at t1 b7
  have e : (xb_i h (ad 15) 10 - 1).toInt = (gO (gx (D - 1)) + c.length : Nat) := by
    rw [z_sub, t1, show (1 : Int32).toInt = 1 from rfl]
    omega
  exact ⟨by rw [z_in, e]; omega, e, by rw [z_cl, e, Int.toNat_natCast], b6.1⟩
theorem rX.tp2 {τ τ' : Int} {c : List Int} (hr : rX ad h W D gx t P lcn p0 E lo ν0 g G) (hS : mS ad h) (hc : gC (gx (D - 1)) = τ :: τ' :: c) : vp_in (xb_i h (ad 15) 10 - 2) (xb_n h (ad 37)) ∧ (xb_i h (ad 15) 10 - 2).toInt = (gO (gx (D - 1)) + c.length : Nat) ∧ (xb_i h (ad 15) 10 - 2).toNatClampNeg = gO (gx (D - 1)) + c.length ∧ vr τ' (xb_l h (ad 37) (gO (gx (D - 1)) + c.length)) := by
  obtain ⟨-, ⟨t1, -⟩, -, ⟨a, a5, b1, b2, b3, b7, b5, b6⟩, -, -⟩ := id hr
  have S4 := hS.2.2.2
  rw [hc] at t1 b6 b7
  simp only [List.length_cons] at t1 b7
  have e : (xb_i h (ad 15) 10 - 2).toInt = (gO (gx (D - 1)) + c.length : Nat) := by
    rw [z_sub, t1, show (2 : Int32).toInt = 2 from rfl]
    omega
  exact ⟨by rw [z_in, e]; omega, e, by rw [z_cl, e, Int.toNat_natCast], b6.2.1⟩
end NU1
