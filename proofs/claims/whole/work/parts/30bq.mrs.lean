-- the reference: a run, instructions that call
/-- what an instruction leaves behind -/
def pP (own : Nat → Nat) (mm : Nat) (A : Nat → Nat) (DM : Nat → zM) (len rl K : Nat) (P : Nat → Prop) (k f : Nat) (h : xb_H) (F : Nat → Nat → Int32) (v : Nat → Int32) (h' : xb_H) (F' : Nat → Nat → Int32) (v' : Nat → Int32) (w : rWd) (z : cZ) : Prop :=
  pF own mm A h F v h' F' v' ∧ rwd A h' F' v' = w ∧ cM own mm A DM len rl K h' F' v' (k < 200 ∧ (v' 68).toInt = (k + 1 : Nat) ∧ (F' (A 69) k).toInt = f ∧ f < vN v' 43) z ∧ ∀ cs n ω, z = .inl (cs, n, ω) → cs ≠ [] → P (mu cs)
section MRS
variable {own : Nat → Nat} {mm m i ip k f t b nl o top q a o1 op base : Nat} {A : Nat → Nat} {h h' h2 : xb_H} {F F' F2 : Nat → Nat → Int32} {v v' v2 : Nat → Int32} {D : zM} {DM : Nat → zM} {len rl K : Nat} {Q : xb_H → Prop} {Ql : Int64 → xb_H → Prop} {φ φ' : Nat → Nat → Int32} {ν ν' : Nat → Int32} {c c' ex pre : List Int} {gs g1 : List gF} {T p0 E : Nat} {lo ν0 ν1 cb : Nat → Int32} {G : ctG} {V : Nat → Prop} {rm y res : Int} {r cs : List cX} {nst : Prop} {x : Nat × Option Nat}
theorem cS.mo {P P' : Nat → Prop} (hP : ∀ n, P n → P' n) (hc : cS A F v DM P) : cS A F v DM P' := hc.imp id (fun ⟨cs, top, opens, a1, a2, a3, a4, a5, a6⟩ => ⟨cs, top, opens, a1, a2, a3, a4, a5, hP _ a6⟩)
theorem pP.tr {P : Nat → Prop} {w : rWd} {z : cZ} (hs : pF own mm A h F v h' F' v') (hu : pP own mm A DM len rl K P k f h' F' v' h2 F2 v2 w z) : pP own mm A DM len rl K P k f h F v h2 F2 v2 w z := ⟨hs.tr hu.1, hu.2⟩
theorem tyS.pf {w : Nat → Int32} {p : Nat} {l2 : List Int} : ∀ {l1 : List Int}, tyS w p (l1 ++ l2) → tyS w (p + l2.length) l1
  | [], _ => trivial
  | y :: l1, h => by
    obtain ⟨h1, h2⟩ := h
    refine ⟨?_, tyS.pf h2⟩
    rw [List.append_eq, List.length_append] at h1
    rw [show p + l2.length + l1.length = p + (l1.length + l2.length) by omega]
    exact h1
/-- where it goes on is noted -/
theorem uX.c70 {w : Int32} (hX : uX own mm A h F v DM len rl K D t f b nl k o c gs T p0 E lo ν0 ν1 G V rm r) : uX own mm A h (va_up F (A 70) (va_up (F (A 70)) k w)) v DM len rl K D t f b nl k o c gs T p0 E lo ν0 ν1 G V rm r ∧ sF own A h F v h (va_up F (A 70) (va_up (F (A 70)) k w)) v := by
  have hB := hX.1.B
  have s1 : sF own A h F v h (va_up F (A 70) (va_up (F (A 70)) k w)) v := sF.a1 hB (by decide) (by decide)
  refine ⟨?_, s1⟩
  have hU := hX.1.sF s1 hX.1.z hX.1.W1.2.1.2.2
  have hF : ∀ k', k' ∈ uxA → k' ≠ 70 → va_up F (A 70) (va_up (F (A 70)) k w) (A k') = F (A k') := fun k' h1 h2 => by rw [xh_up, if_neg (hB.ne ((by decide : ∀ k, k ∈ uxA → ∃ e ∈ aL, e.1 = k) k' h1) (by decide) h2)]
  obtain ⟨a1, ⟨l1, l2, l3, l4, l5, l6, l7, l8⟩, ⟨a3, a4, a5⟩, a6, a7, ⟨a8, a9, a10⟩, a11⟩ := hX
  obtain ⟨em, et, -, er⟩ := fMo.st (DM := DM) (φ := fun k => F (A k)) (φ' := fun k' => va_up F (A 70) (va_up (F (A 70)) k w) (A k')) (hF 31 (by decide) (by decide)) (hF 44 (by decide) (by decide)) (hF 45 (by decide) (by decide))
  refine ⟨hU, ⟨l1, ?_, l3, fun i hi => ?_, ?_, ?_, ?_, l8⟩, ⟨by rw [em]; exact a3, by rw [et]; exact a4, a5⟩, ?_, a7, ⟨a8, a9, a10⟩, a11⟩
  · show (va_up F (A 70) (va_up (F (A 70)) k w) (A 69) k).toInt = f ∧ (va_up F (A 70) (va_up (F (A 70)) k w) (A 71) k).toInt = b ∧ (va_up F (A 70) (va_up (F (A 70)) k w) (A 72) k).toInt = nl ∧ (va_up F (A 70) (va_up (F (A 70)) k w) (A 73) k).toInt = o
    rw [hF 69 (by decide) (by decide), hF 71 (by decide) (by decide), hF 72 (by decide) (by decide), hF 73 (by decide) (by decide)]
    exact l2
  · show (va_up F (A 70) (va_up (F (A 70)) k w) (A 75) (b + i)).toInt = _
    rw [hF 75 (by decide) (by decide)]
    exact l4 i hi
  · show tyS (va_up F (A 70) (va_up (F (A 70)) k w) (A 75)) (b + nl) c
    rw [hF 75 (by decide) (by decide)]
    exact l5
  · show (va_up F (A 70) (va_up (F (A 70)) k w) (A 77) o).toInt = 0 ∧ (va_up F (A 70) (va_up (F (A 70)) k w) (A 79) o).toInt = tRt D t ∧ (va_up F (A 70) (va_up (F (A 70)) k w) (A 80) o).toInt = (b + nl : Nat)
    rw [hF 77 (by decide) (by decide), hF 79 (by decide) (by decide), hF 80 (by decide) (by decide)]
    exact l6
  · refine l7.fr (φ' := fun k' => va_up F (A 70) (va_up (F (A 70)) k w) (A k')) (fun k' hk j _ => ?_)
    show va_up F (A 70) (va_up (F (A 70)) k w) (A k') j = F (A k') j
    rw [hF k' ((by decide : ∀ k, k ∈ [77, 78, 79, 80] → k ∈ uxA) k' hk) ((by decide : ∀ k, k ∈ [77, 78, 79, 80] → k ≠ 70) k' hk)]
  · rw [er]
    refine a6.fr (φ' := fun k' => va_up F (A 70) (va_up (F (A 70)) k w) (A k')) (hF 31 (by decide) (by decide)) (hF 44 (by decide) (by decide)) (hF 45 (by decide) (by decide)) rfl (fun k' hk j hj => ?_) (fun j hj => ?_) (fun k' hk j hj => ?_)
    · show va_up F (A 70) (va_up (F (A 70)) k w) (A k') j = F (A k') j
      by_cases h9 : k' = 70
      · rw [h9, xh_up, if_pos rfl, xh_up, if_neg (by omega)]
      · rw [hF k' ((by decide : ∀ k, k ∈ [69, 70, 71, 72, 73] → k ∈ uxA) k' hk) h9]
    · show va_up F (A 70) (va_up (F (A 70)) k w) (A 75) j = F (A 75) j
      rw [hF 75 (by decide) (by decide)]
    · show va_up F (A 70) (va_up (F (A 70)) k w) (A k') j = F (A k') j
      rw [hF k' ((by decide : ∀ k, k ∈ [77, 78, 79, 80] → k ∈ uxA) k' hk) ((by decide : ∀ k, k ∈ [77, 78, 79, 80] → k ≠ 70) k' hk)]
/-- the call as it stands -/
theorem n_RC {l1 : List Int} (hX : uX own mm A h F v DM len rl K D t f b nl k o (l1 ++ c) gs T p0 E lo ν0 ν1 G V rm r) (h70 : (F (A 70) k).toInt = a) (hG : G 0 a (pre ++ c) gs) : RC (fun k => F (A k)) v DM ((f, b, nl, a, c, gs) :: r) pre (b + nl + c.length) (o + 1 + gs.length) := by
  obtain ⟨a1, ⟨l1, l2, l3, l4, l5, l6, l7, l8⟩, ⟨a3, a4, a5⟩, a6, a7, ⟨a8, a9, a10⟩, a11⟩ := hX
  subst a7
  refine ⟨o, rfl, ⟨a5, l1, ⟨l2.1, h70, l2.2.1, l2.2.2.1, l2.2.2.2⟩, rfl, T, p0, E, lo, ν0, ν1, G, V, rm, ?_⟩, a6⟩
  rw [a3, a4]
  exact ⟨l3.1, hG, l3.2.1, l3.2.2, l4, l5.suf, l6, l7, l8⟩
end MRS
