-- equality: a run begins
/-- where both stand as a run begins -/
def gS0 (W : wD) (A : Nat → Nat) (F : Nat → Nat → Int32) (DM : Nat → zM) (most ω p : Nat → Int64) (v : Nat → Int32) (w0 : rWd) (k0 : Nat) (s : cCf) : Prop :=
  (v 63 ≠ 0 → v 82 = 0 ∧ ∃ (cs : List cX) (n : Nat), rSt A F v DM cs n ∧ cMt W A F DM most s k0 (.inl (cs, n, ω)) w0) ∧
  (v 63 = 0 → ∀ (f : Nat) (w' : rWd) (z : cZ) (z' : rZ), (v 64).toInt = f → caR A F DM [] 0 f (agW A F DM f p ω (fPl (fun k => F (A k)) DM f).length) w0 w' z → tz0 z z' → cMt W A F DM most s k0 z' w')
section HC
variable {own own' ad ad' : Nat → Nat} {H H' : xb_H} {W : wD} {σ ts mc K : Nat} {M : Nat → mD} {A : Nat → Nat} {v : Nat → Int32} {y : Int64} {DM : Nat → zM} {rc rs k0 : Nat}
theorem wQ.ca {e : Option Int64} {w w' : rWd} {np : Nat} {gm : Nat → Nat} (hW : wI own ad H W σ) (sm : ∀ a, xb_k H a ≠ 0 → own a = 1 ∨ own a = 50 ∨ own a = 51 → xh_sm H H' a) (a22 : ad' 22 = ad 22) (l22 : xb_l H' (ad 22) = xb_l H (ad 22)) (a26 : ad' 26 = ad 26) (l26 : xb_l H' (ad 26) = xb_l H (ad 26)) (a27 : ad' 27 = ad 27) (hU : oU ad H ad' H' e) (hw' : (e = none ∧ w' = w) ∨ ∃ y, e = some y ∧ w' = (w.1, w.2.1, w.2.2.1, w.2.2.2.1, w.2.2.2.2.1, w.2.2.2.2.2.1 + 1, va_up w.2.2.2.2.2.2 w.2.2.2.2.2.1.toInt.toNat y)) (hw : wQ ad H W np gm w) : wQ ad' H' W np gm w' := by
  obtain ⟨w1, w2, w4, w5, w6, w7⟩ := hw
  have k1 : w'.1 = w.1 ∧ w'.2.1 = w.2.1 ∧ w'.2.2.1 = w.2.2.1 ∧ w'.2.2.2.1 = w.2.2.2.1 ∧ w'.2.2.2.2.1 = w.2.2.2.2.1 := by
    rcases hw' with ⟨-, e2⟩ | ⟨y, -, e2⟩
    · rw [e2]
      exact ⟨rfl, rfl, rfl, rfl, rfl⟩
    · rw [e2]
      exact ⟨rfl, rfl, rfl, rfl, rfl⟩
  obtain ⟨k1, k2, k3, k4, k5⟩ := k1
  refine ⟨?_, ?_, fun i hi hm => ?_, by rw [k5]; exact w5, ?_⟩
  · rw [a22, l22, k1]
    exact w1
  · rw [a26, l26, k2]
    exact w2
  · obtain ⟨q1, q2, q3, q4, q5⟩ := (smI hW sm hi).2.2.2.2 hm
    rw [q4, q2, q5, k3, k4]
    exact w4 i hi hm
  · rcases hw' with ⟨e1, e2⟩ | ⟨y, e1, e2⟩
    · subst e1
      subst e2
      obtain ⟨a1, a2, a3⟩ := hU
      rw [a27, a1, a2, a3]
      exact ⟨w6, w7⟩
    · subst e1
      subst e2
      obtain ⟨n, n1, n2, n3, n4, n5⟩ := hU
      have e9 : (w.2.2.2.2.2.1 + 1).toInt = (n + 1 : Nat) := by
        rw [z_add, w6, n1]
        simp only [Int32.reduceToInt]
        omega
      rw [a27]
      refine ⟨?_, fun j hj => ?_⟩
      · apply Int32.toInt.inj
        rw [n3]
        exact e9
      · rw [n3] at hj
        have e8 : w.2.2.2.2.2.1.toInt.toNat = n := by rw [w6, n1]; rfl
        show va_up w.2.2.2.2.2.2 w.2.2.2.2.2.1.toInt.toNat y j = _
        rw [e8, xh_up]
        split
        · next e =>
          rw [e]
          exact n5.symm
        · rw [n4 j (by omega)]
          exact w7 j (by rw [n1]; omega)
theorem gS0.go (hI : cI own ad H W σ ts K) (hX : ∀ i, i < wic W → moB (wd W i)) (hQ : gQ ad H W mc M ts (fun k => xb_i H (A k)) (fun k => xb_l H (A k)) v y DM) (h3 : xb_i H (ad 15) 3 ≠ 0) : jGo own ad H W σ rc rs k0 (cJ own ad (xb_I H (ad 15) 7 0) W σ rc rs (gS0 W A (xb_i H) DM (xb_l H (A 55)) (xb_l H (A 74)) (xb_l H (A 67)) v (rwd A H (xb_i H) v) k0)) := by
  obtain ⟨hB, hW, -⟩ := hI.1
  have s0 : stp [15] [] own ad own ad H (xb_I H (ad 15) 7 0) := stp.Ic hB
  have hB0 := s0.1
  have hW0 : wI own ad (xb_I H (ad 15) 7 0) W σ := hW.mc hB s0 (by simp) (fun h9 => by simp at h9)
  have cm0 : ∀ k, k < 41 → k ∉ [15] → xh_sm H (xb_I H (ad 15) 7 0) (ad k) := fun k hk hn => (s0.cm hB (by decide) (fun x hx => by cases hx) hk hn).2
  have sm0 : ∀ a, xb_k H a ≠ 0 → own a = 1 ∨ own a = 50 ∨ own a = 51 → xh_sm H (xb_I H (ad 15) 7 0) a := fun a ha ho => s0.n1 hB (by decide) ha (fun h9 => by cases h9) rfl (by omega)
  have hst : stQ H ad W A (xb_i H) DM (xb_l H (A 55)) := hQ.2.2.1.2.2.1.cg0 (fun k _ => rfl)
  have hst0 : stQ (xb_I H (ad 15) 7 0) ad W A (xb_i H) DM (xb_l H (A 55)) := hst.sm hW sm0 rfl (cm0 24 (by decide) (by decide)).2.1
  have hwq : wQ ad H W (wnp W) (gmV A (xb_i H) DM) (rwd A H (xb_i H) v) := hQ.2.2.1.2.2.2
  have hwq0 : wQ ad (xb_I H (ad 15) 7 0) W (wnp W) (gmV A (xb_i H) DM) (rwd A H (xb_i H) v) := hwq.sm hW sm0 rfl (cm0 22 (by decide) (by decide)).2.1 rfl (cm0 26 (by decide) (by decide)).2.1 rfl (by rw [(cm0 27 (by decide) (by decide)).1]) rfl (cm0 28 (by decide) (by decide)).2.1
  rcases hQ.2.2.2.2.2.2.2.1 with ⟨k1, -⟩ | ⟨-, -, k3⟩
  · exact absurd k1 h3
  rcases k3 with ⟨⟨b63, b68⟩, b4, f, b8, bvf, b64, bargs⟩ | ⟨r63, r82, D, gx, cs, n, r1, r2, r3⟩
  · refine ⟨fun ⟨D, gx, r1⟩ => ?_, fun f' n0 bc' bs' own' ad' h' o e h8 h4 hvf hn0 hca hcl => ?_⟩
    · exfalso
      have := r1.1.1
      have := r1.1.2.2.2.1
      omega
    · have ef : f' = f := by
        rw [b8] at h8
        exact (Int.ofNat.inj h8).symm
      subst ef
      refine ⟨0, fun _ => (k0, own', ad', h', wnp W, o), ⟨⟨fun h9 => absurd b63 h9, fun _ f2 w' z z' h64 hcaR htz => ?_⟩, rfl, fun i hi => absurd hi (by omega)⟩⟩
      have ef2 : f2 = fmp f' := by
        rw [b64] at h64
        exact (Int.ofNat.inj h64).symm
      subst ef2
      obtain ⟨s1, -, -, -, hU, -⟩ := hca
      have cm1 : ∀ k, k < 41 → k ∉ caC → ad' k = ad k ∧ xh_sm (xb_I H (ad 15) 7 0) h' (ad k) := fun k hk hn => s1.cm hB0 (by decide) (fun x hx => by cases hx) hk hn
      have sm1 : ∀ a, xb_k (xb_I H (ad 15) 7 0) a ≠ 0 → own a = 1 ∨ own a = 50 ∨ own a = 51 → xh_sm (xb_I H (ad 15) 7 0) h' a := fun a ha ho => s1.n1 hB0 (by decide) ha (fun h9 => by cases h9) rfl (by omega)
      obtain ⟨g1, g2⟩ := hst.ft hW bvf
      have hst1 : stQ h' ad' W A (xb_i H) DM (xb_l H (A 55)) := hst0.sm hW0 sm1 (cm1 24 (by decide) (by decide)).1 (cm1 24 (by decide) (by decide)).2.2.1
      have a27 : ad' 27 = ad 27 := s1.2.2.2.2.2.2 27 (by decide)
      have hn9 : (rwd A H (xb_i H) v).2.2.2.2.2.1.toInt = n0 := by
        have w6 := hwq.2.2.2.2.1
        rw [w6]
        exact hn0
      have fr0 : frQ W (fun k => xb_i H (A k)) DM (fun _ => ((0, 0, 0, 0, 0, [], []) : fG)) [] 0 := rfl
      have hv9 : ∀ j, j < 0 + (fT W f').1.length → xb_l H (ad 37) j = agW A (xb_i H) DM (fmp f') (xb_l H (A 67)) (xb_l H (A 74)) (fPl (fun k => xb_i H (A k)) DM (fmp f')).length j := fun j hj => by
        rw [Nat.zero_add] at hj
        unfold agW
        rw [if_pos (by rw [g1]; exact hj)]
        exact bargs j hj
      have hr := clQ hX hW hst fr0 (T := 0) (fun h9 => absurd h9 (Nat.lt_irrefl 0)) hv9 hn9 hcl hcaR
      have key : ((e = none ∧ w' = rwd A H (xb_i H) v) ∨ ∃ y, e = some y ∧ w' = ((rwd A H (xb_i H) v).1, (rwd A H (xb_i H) v).2.1, (rwd A H (xb_i H) v).2.2.1, (rwd A H (xb_i H) v).2.2.2.1, (rwd A H (xb_i H) v).2.2.2.2.1, (rwd A H (xb_i H) v).2.2.2.2.2.1 + 1, va_up (rwd A H (xb_i H) v).2.2.2.2.2.2 (rwd A H (xb_i H) v).2.2.2.2.2.1.toInt.toNat y)) ∧ oQ W (fun k => xb_i H (A k)) DM o z' := by
        rcases hr with ⟨e1, e2, e3⟩ | ⟨e1, e2, e3, e4, e5⟩
        · refine ⟨.inl ⟨e1, e2⟩, ?_⟩
          rcases e3 with ⟨yy, e4, e5⟩ | ⟨κ, e4, e5, e6, e7⟩
          · subst e4
            have : z' = .inl yy := htz
            rw [this]
            exact e5
          · subst e6
            have : z' = .inr (κ, -1, -1, -1) := htz
            rw [this, e7]
            exact ⟨e5, rfl, rfl, rfl, rfl⟩
        · refine ⟨.inr ⟨_, e1, ?_⟩, ?_⟩
          · rw [e3]
            have h0 : xb_l H (ad 37) 0 = agW A (xb_i H) DM (fmp f') (xb_l H (A 67)) (xb_l H (A 74)) (fPl (fun k => xb_i H (A k)) DM (fmp f')).length 0 := hv9 0 (by
              have : (fT W f').1.length = 1 := by unfold fT; rw [if_pos e2]; rfl
              omega)
            rw [h0]
          · subst e4
            have : z' = .inl ([], 0, _) := htz
            rw [this]
            exact e5
      exact ⟨rfl, key.2, wQ.ca hW0 sm1 (cm1 22 (by decide) (by decide)).1 (cm1 22 (by decide) (by decide)).2.2.1 (cm1 26 (by decide) (by decide)).1 (cm1 26 (by decide) (by decide)).2.2.1 a27 hU key.1 hwq0, hst1⟩
  · refine ⟨fun _ => ⟨D, gx, r1, 0, fun _ => (k0, own, ad, xb_I H (ad 15) 7 0, wnp W, .inl (D, gx, xb_l H (ad 37))), ⟨⟨fun _ => ⟨r82, cs, n, r2, rfl, r3, hwq0, hst0⟩, fun h9 => absurd h9 r63⟩, rfl, fun i hi => absurd hi (by omega)⟩⟩, fun f' n0 bc' bs' own' ad' h' o e h8 h4 hvf hn0 hca hcl => ?_⟩
    exfalso
    have := r1.1.1
    have := r1.1.2.2.2.1
    omega
end HC
