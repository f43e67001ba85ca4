-- the reference: a run, memories
def aRZ : List Nat := [3, 6, 7, 8, 9, 10, 11, 12, 31, 32, 33, 35, 36, 37, 38, 44, 45, 59]
def vRZ : List Nat := [4, 5, 13, 30, 34, 43, 46, 52, 58]
def cutZ (φ : Nat → Nat → Int32) (k : Nat) : Nat → Int32 := if k ∈ aRZ then φ k else fun _ => 0
def cutY (ν : Nat → Int32) (k : Nat) : Int32 := if k ∈ vRZ then ν k else 0
/-- pages are told or added: the world, what is put on the stack -/
def pgR (w : rWd) (W most : Nat → Int64) (g top : Nat) (x2 : Int32) (w' : rWd) (y : Int64) : Prop :=
  (x2 = 63 ∧ w' = w ∧ y = arV 127 (Int32.toInt64 (w.2.2.1 g))) ∨
  (x2 = 64 ∧ ∃ n pc ps : Nat, (W top &&& 4294967295).toInt = n ∧ (w.2.2.1 g).toInt = pc ∧ w.2.2.2.2.1.toInt = ps ∧
    (((((pc + n : Nat) : Int) ≤ (if 0 ≤ (most g).toInt then (most g).toInt else 65536) ∧ ps + n ≤ 16) ∧ y = arV 127 (Int32.toInt64 (w.2.2.1 g)) ∧ (w'.1 = w.1 ∧ w'.2.1 = w.2.1 ∧ w'.2.2.2.2.2 = w.2.2.2.2.2) ∧ (w'.2.2.1 g).toInt = (pc + n : Nat) ∧ (∀ i, i ≠ g → w'.2.2.1 i = w.2.2.1 i) ∧ (∀ j, j < n → (w'.2.2.2.1 (16 * g + (pc + j))).toInt = (ps + j : Nat)) ∧ (∀ i, (∀ j, j < n → i ≠ 16 * g + (pc + j)) → w'.2.2.2.1 i = w.2.2.2.1 i) ∧ w'.2.2.2.2.1.toInt = (ps + n : Nat)) ∨
     (¬ (((pc + n : Nat) : Int) ≤ (if 0 ≤ (most g).toInt then (most g).toInt else 65536) ∧ ps + n ≤ 16) ∧ w' = w ∧ y = arV 127 (-1))))
section MRM
variable {own : Nat → Nat} {mm m i ip k f t b nl o top q a o1 op : Nat} {A : Nat → Nat} {h h' h2 : xb_H} {F F' F2 : Nat → Nat → Int32} {v v' v2 : Nat → Int32} {D : zM} {DM : Nat → zM} {len rl K : Nat} {Q : xb_H → Prop} {Ql : Int64 → xb_H → Prop} {φ φ' : Nat → Nat → Int32} {ν ν' : Nat → Int32} {c c' ex pre : List Int} {gs g1 : List gF} {T p0 E : Nat} {lo ν0 ν1 cb : Nat → Int32} {G : ctG} {V : Nat → Prop} {rm y res : Int} {r : List cX} {nst : Prop} {x : Nat × Option Nat}
theorem W23_cut : (W2 φ ν len DM ∧ W3 φ ν DM) ↔ (W2 (cutZ φ) (cutY ν) len DM ∧ W3 (cutZ φ) (cutY ν) DM) := Iff.rfl
theorem W23_cg (hI : W2 φ ν len DM ∧ W3 φ ν DM) (h1 : ∀ k, k ∈ aRZ → φ' k = φ k) (h2 : ∀ k, k ∈ vRZ → ν' k = ν k) : W2 φ' ν' len DM ∧ W3 φ' ν' DM := by
  have e1 : cutZ φ' = cutZ φ := funext fun k => by
    unfold cutZ
    split
    · exact h1 k (by assumption)
    · rfl
  have e2 : cutY ν' = cutY ν := funext fun k => by
    unfold cutY
    split
    · exact h2 k (by assumption)
    · rfl
  rw [W23_cut, e1, e2, ← W23_cut]
  exact hI
/-- an array that no promise is about gets written -/
theorem uX.aw {w : Nat → Int32} {j : Nat} (hX : uX own mm A h F v DM len rl K D t f b nl k o c gs T p0 E lo ν0 ν1 G V rm r) (hj : ∃ e ∈ aL, e.1 = j) (h1 : j ∉ aRY) (h2 : j ∉ uxA) (h3 : j ≠ 90) (h4 : j < 200) : uX own mm A h (va_up F (A j) w) v DM len rl K D t f b nl k o c gs T p0 E lo ν0 ν1 G V rm r := by
  have hB := hX.1.B
  have fk : ∀ k, (∃ e ∈ aL, e.1 = k) → k ≠ j → va_up F (A j) w (A k) = F (A k) := fun k g1 g2 => by rw [xh_up, if_neg (hB.ne g1 hj g2)]
  have hf : f0 own h F h (va_up F (A j) w) := f0.aw (by rw [hB.o hj]; omega)
  have q1 : ∀ k, k ∈ aRY → ∃ e ∈ aL, e.1 = k := by decide
  have q2 : ∀ k, k ∈ uxA → ∃ e ∈ aL, e.1 = k := by decide
  refine hX.cg (n_ch hX.1 hf (n_eE hX.1 hf (fk 90 (by decide) (Ne.symm h3)) (fun a ha => ?_)) hX.1.W1 (hX.1.I.2.cg (fun k hk => fk k (q1 k hk) (fun e => h1 (e ▸ hk))) (fun _ _ => rfl)) rfl rfl) (fun k hk => fk k (q2 k hk) (fun e => h2 (e ▸ hk))) rfl rfl rfl rfl
  rw [xh_up, if_neg (fun e => ?_)]
  have := hB.o hj
  rw [← e, ha] at this
  omega
/-- a page is added -/
theorem uX.page {g pc ps : Nat} {x w1 w2 : Int32} (hX : uX own mm A h F v DM len rl K D t f b nl k o c gs T p0 E lo ν0 ν1 G V rm r) (hg : g < vN v 52) (hpc : (F (A 54) g).toInt = pc) (hps : (v 53).toInt = ps) (hl : ps < 16) (hw2 : w2.toInt = (pc + 1 : Nat)) (hx : x.toInt = (ps + 1 : Nat)) : uX own mm A h (va_up (va_up F (A 56) (va_up (F (A 56)) i (v 53))) (A 54) (va_up (F (A 54)) g w2)) (va_up v 53 x) DM len rl K D t f b nl k o c gs T p0 E lo ν0 ν1 G V rm r := by
  have hB := hX.1.B
  have n56 : A 54 ≠ A 56 := hB.ne (by decide) (by decide) (by decide)
  have fk : ∀ k, (∃ e ∈ aL, e.1 = k) → k ≠ 54 → k ≠ 56 → va_up (va_up F (A 56) (va_up (F (A 56)) i (v 53))) (A 54) (va_up (F (A 54)) g w2) (A k) = F (A k) := fun k g1 g2 g3 => by rw [xh_up, if_neg (hB.ne g1 (by decide) g2), xh_up, if_neg (hB.ne g1 (by decide) g3)]
  have f54 : va_up (va_up F (A 56) (va_up (F (A 56)) i (v 53))) (A 54) (va_up (F (A 54)) g w2) (A 54) = va_up (F (A 54)) g w2 := by rw [xh_up, if_pos rfl]
  have f56 : va_up (va_up F (A 56) (va_up (F (A 56)) i (v 53))) (A 54) (va_up (F (A 54)) g w2) (A 56) = va_up (F (A 56)) i (v 53) := by rw [xh_up, if_neg (Ne.symm n56), xh_up, if_pos rfl]
  have vo : ∀ j, j ≠ 53 → va_up v 53 x j = v j := fun j hj => by rw [xh_up, if_neg hj]
  have hf : f0 own h F h (va_up (va_up F (A 56) (va_up (F (A 56)) i (v 53))) (A 54) (va_up (F (A 54)) g w2)) := (f0.aw (by rw [hB.o (by decide)]; omega)).tr (f0.aw (by rw [hB.o (by decide)]; omega))
  have v53 : vN (va_up v 53 x) 53 = ps + 1 := by
    unfold vN
    rw [xh_up, if_pos rfl, hx]
    omega
  have vj : ∀ j, j ≠ 53 → vN (va_up v 53 x) j = vN v j := fun j hj => by
    unfold vN
    rw [vo j hj]
  have o53 : vN v 53 = ps := by
    unfold vN
    rw [hps]
    omega
  have hW : W1 (va_up v 53 x) K := by
    obtain ⟨b1, b2, b3, b4, b5, b6, b7, b8⟩ := hX.1.W1
    refine ⟨fun e he => ?_, by rw [vo 17 (by decide), vo 84 (by decide), vo 94 (by decide)]; exact b2, by rw [vj 4 (by decide), vj 2 (by decide)]; exact b3, by rw [vj 42 (by decide)]; exact b4, by rw [vj 13 (by decide), vj 4 (by decide)]; exact b5, by rw [vj 46 (by decide), vj 30 (by decide)]; exact b6, by rw [vj 52 (by decide), vj 30 (by decide)]; exact b7, by rw [vj 34 (by decide), vj 30 (by decide)]; exact b8⟩
    by_cases h9 : e.1 = 53
    · have : ∀ e ∈ wB, e.1 = 53 → e.2 = 16 := by decide
      rw [h9, this e he h9, xh_up, if_pos rfl, hx]
      omega
    · rw [vo _ h9]
      exact b1 e he
  have hY := hX.1.I.2
  obtain ⟨d2, d3, e1, e2, e3, e4, e5, e6, e7⟩ := hY
  have q1 : ∀ k, k ∈ aRZ → (∃ e ∈ aL, e.1 = k) ∧ k ≠ 54 ∧ k ≠ 56 := by decide
  have q2 : ∀ k, k ∈ uxA → (∃ e ∈ aL, e.1 = k) ∧ k ≠ 54 ∧ k ≠ 56 := by decide
  have q3 : ∀ k, k ∈ vRZ → k ≠ 53 := by decide
  obtain ⟨d2', d3'⟩ := W23_cg (φ' := fun k => va_up (va_up F (A 56) (va_up (F (A 56)) i (v 53))) (A 54) (va_up (F (A 54)) g w2) (A k)) (ν' := va_up v 53 x) ⟨d2, d3⟩ (fun k hk => fk k (q1 k hk).1 (q1 k hk).2.1 (q1 k hk).2.2) (fun k hk => vo k (q3 k hk))
  have hW4 : W4 (fun k => va_up (va_up F (A 56) (va_up (F (A 56)) i (v 53))) (A 54) (va_up (F (A 54)) g w2) (A k)) (va_up v 53 x) DM := by
    unfold W4 fnO aV
    simp only [vj 43 (by decide), vj 30 (by decide), vj 46 (by decide), vj 47 (by decide), vj 52 (by decide), vj 58 (by decide), vj 42 (by decide), vj 4 (by decide), v53, f54, f56, fk 44 (by decide) (by decide) (by decide), fk 45 (by decide) (by decide) (by decide), fk 31 (by decide) (by decide) (by decide), fk 48 (by decide) (by decide) (by decide), fk 49 (by decide) (by decide) (by decide), fk 51 (by decide) (by decide) (by decide), fk 59 (by decide) (by decide) (by decide), fk 39 (by decide) (by decide) (by decide), fk 40 (by decide) (by decide) (by decide), fk 41 (by decide) (by decide) (by decide)]
    refine ⟨e1, e2, e3, fun m hm => ?_, fun j hj => ?_, e6, e7⟩
    · rw [xh_up]
      split
      · next e => exact ⟨pc + 1, hw2, by
          obtain ⟨pc', z1, z2⟩ := e4 g hg
          have z1' : (F (A 54) g).toInt = pc' := z1
          omega⟩
      · obtain ⟨pc', z1, z2⟩ := e4 m hm
        exact ⟨pc', z1, by omega⟩
    · rw [xh_up]
      split
      · rw [hps]
        omega
      · exact e5 j hj
  refine hX.cg (n_ch hX.1 hf (n_eE hX.1 hf (fk 90 (by decide) (by decide) (by decide)) (fun a ha => ?_)) hW ⟨d2', d3', hW4⟩ (vo 34 (by decide)) (vo 13 (by decide))) (fun k hk => fk k (q2 k hk).1 (q2 k hk).2.1 (q2 k hk).2.2) (vo 43 (by decide)) (vo 68 (by decide)) (vo 76 (by decide)) (vo 81 (by decide))
  have o4 := hB.o (k := 54) (by decide)
  have o6 := hB.o (k := 56) (by decide)
  rw [xh_up, if_neg (fun e => by rw [← e, ha] at o4; omega), xh_up, if_neg (fun e => by rw [← e, ha] at o6; omega)]
theorem n_pagesOf {x1 x2 : Int32} {g : Nat} (hX : uX own mm A h F v DM len rl K D t f b nl k o c gs T p0 E lo ν0 ν1 G V rm r) (hx1 : x1.toInt = g) (hg : g < vN v 52) (hl : x2 = 63 → b + nl + c.length < 16384) (hx2 : x2 ≠ 63 → x2 = 64) (hc : x2 = 64 → ∃ c2, c = 127 :: c2 ∧ gbl gs ≤ c2.length)
    (hQ : ∀ (h' : xb_H) (F' : Nat → Nat → Int32) (v' : Nat → Int32) (c' : List Int) (y : Int64), pF own mm A h F v h' F' v' → (∀ j, j ≠ 76 → j ≠ 53 → v' j = v j) → uX own mm A h' F' v' DM len rl K D t f b nl k o c' gs T p0 E lo ν0 ν1 G V rm r → (x2 = 63 → c' = 127 :: c) → (x2 = 64 → c' = c) → xb_l h' (A 74) = va_up (xb_l h (A 74)) (b + nl + c'.length - 1) y → pgR (rwd A h F v) (xb_l h (A 74)) (xb_l h (A 55)) g (b + nl + c.length - 1) x2 (rwd A h' F' v') y → Q (mH h' F' mm v')) : w_M_pagesOf mm x1 x2 (mH h F mm v) Q := by
  have hB := hX.1.B
  obtain ⟨g54, k54, n54, m54⟩ := hB.kx (k := 54) (kd := 102) (n := 24) (by decide) (by decide)
  obtain ⟨g55, k55, n55, m55⟩ := hB.kx (k := 55) (kd := 103) (n := 24) (by decide) (by decide)
  obtain ⟨g56, k56, n56, m56⟩ := hB.kx (k := 56) (kd := 102) (n := 384) (by decide) (by decide)
  have hg24 : g < 24 := by
    have := (hX.1.n (k := 52) (b := 24) (by decide)).2
    omega
  have cl : x1.toNatClampNeg = g := by rw [z_cl, hx1]; omega
  have in24 : ∀ A' : Nat, xb_n h A' = 24 → vp_in x1 (xb_n h A') := fun A' hA' => by rw [z_in, hx1, hA']; omega
  unfold w_M_pagesOf
  refine ⟨hB.2.1, A 54, g54, k54, in24 _ n54, fun v5 e5 => ?_⟩
  rw [mH_o m54, cl] at e5
  obtain ⟨pc, z1, z2⟩ := hX.1.w4.2.2.2.1 g hg
  have z1' : (F (A 54) g).toInt = pc := z1
  obtain ⟨n53, n53'⟩ := hX.1.n (k := 53) (b := 16) (by decide)
  refine ⟨fun n63 => ?_, fun e63 => ?_⟩
  · have e64 := hx2 n63
    obtain ⟨c2, ec, hgc⟩ := hc e64
    subst ec
    refine hX.popE (.inr rfl) hgc (fun v2 s2 w2 hX2 _ v9 e9 => ?_)
    have hlow := Z_low_rg (xb_l h (A 74) (b + nl + c2.length))
    rw [← e9] at hlow
    have o53 : vN v2 53 = vN v 53 := by
      unfold vN
      rw [w2 53 (by decide)]
    have hl := hX.2.2.2.2.2.2
    simp only [List.length_cons] at hl
    have fin : ∀ (F3 : Nat → Nat → Int32) (v3 : Nat → Int32) (y0 : Int64), pF own mm A h F v h F3 v3 → (∀ j, j ≠ 76 → j ≠ 53 → v3 j = v j) → uX own mm A h F3 v3 DM len rl K D t f b nl k o c2 gs T p0 E lo ν0 ν1 G V rm r → pgR (rwd A h F v) (xb_l h (A 74)) (xb_l h (A 55)) g (b + nl + (127 :: c2 : List Int).length - 1) x2 (rwd A h F3 v3) (arV 127 y0) → w_M_add mm y0 127 (mH h F3 mm v3) (fun (h3 : xb_H) => xb_ext (mH h F3 mm v3) h3 → Q h3) := by
      intro F3 v3 y0 p3 w3 hX3 hpg
      refine hX3.pushE (by decide) (by omega) (fun F4 v4 s4 w4 f4 hX4 _ => ?_)
      exact hQ _ F4 v4 _ (arV 127 y0) (p3.tr (s4.P hB)) (fun j h1 h2 => by rw [w4 j h1, w3 j h1 h2]) hX4 (fun e => absurd e n63) (fun _ => rfl) (by rw [xl_L]; rfl) (by rw [s4.W hB]; exact hpg)
    have e9' : v9.toInt = v9.toInt.toNat := by omega
    have hn9 : (xb_l h (A 74) (b + nl + c2.length) &&& 4294967295).toInt = v9.toInt.toNat := by rw [← e9]; exact e9'
    have hbad : ¬ (((pc + v9.toInt.toNat : Nat) : Int) ≤ (if 0 ≤ (xb_l h (A 55) g).toInt then (xb_l h (A 55) g).toInt else 65536) ∧ vN v 53 + v9.toInt.toNat ≤ 16) → w_M_pagesOf_L85 Q mm (mH h F mm v2) := by
      intro hbd
      unfold w_M_pagesOf_L85
      exact ⟨hB.2.1, fin F v2 _ (s2.P hB) (fun j h1 _ => w2 j h1) hX2 (.inr ⟨e64, v9.toInt.toNat, pc, vN v 53, hn9, z1', n53, .inr ⟨hbd, s2.W hB, rfl⟩⟩)⟩
    have loop : ∀ (n j : Nat) (F3 : Nat → Nat → Int32) (v3 : Nat → Int32) (x8 : Int64), (n + j : Int) = v9.toInt → x8.toInt = j → vN v 53 + v9.toInt ≤ 16 → ((pc : Int) + v9.toInt ≤ (if 0 ≤ (xb_l h (A 55) g).toInt then (xb_l h (A 55) g).toInt else 65536)) → (∀ a, a ≠ A 54 → a ≠ A 56 → F3 a = F a) → (∀ i, i ≠ g → F3 (A 54) i = F (A 54) i) → (∀ j', j' < j → (F3 (A 56) (16 * g + (pc + j'))).toInt = (vN v 53 + j' : Nat)) → (∀ i, (∀ j', j' < j → i ≠ 16 * g + (pc + j')) → F3 (A 56) i = F (A 56) i) → pF own mm A h F v h F3 v3 → (∀ j, j ≠ 76 → j ≠ 53 → v3 j = v j) → uX own mm A h F3 v3 DM len rl K D t f b nl k o c2 gs T p0 E lo ν0 ν1 G V rm r → (F3 (A 54) g).toInt = (pc + j : Nat) → (v3 53).toInt = (vN v 53 + j : Nat) → w_M_pagesOf_L98 Q (n + 1) mm x1 v5 v9 x8 (mH h F3 mm v3) := by
      intro n
      induction n with
      | zero =>
        intro j F3 v3 x8 hj h8 hle hle2 k1 k2 k3 k4 p3 w3 hX3 q1 q2
        unfold w_M_pagesOf_L98
        have ej : v9.toInt.toNat = j := by omega
        refine ⟨fun _ => ⟨hB.2.1, fin F3 v3 _ p3 w3 hX3 (.inr ⟨e64, v9.toInt.toNat, pc, vN v 53, hn9, z1', n53, .inl ⟨⟨by omega, by omega⟩, by rw [e5]; rfl, ⟨rfl, k1 _ (hB.ne (by decide) (by decide) (by decide)) (hB.ne (by decide) (by decide) (by decide)), by show (v3 88, _) = (v 88, _); rw [w3 88 (by decide) (by decide)]⟩, by rw [ej]; exact q1, k2, by rw [ej]; exact k3, by rw [ej]; exact k4, by rw [ej]; exact q2⟩⟩)⟩, fun h9 => ?_⟩
        rw [Z_le, h8] at h9
        omega
      | succ n ih =>
        intro j F3 v3 x8 hj h8 hle hle2 k1 k2 k3 k4 p3 w3 hX3 q1 q2
        unfold w_M_pagesOf_L98
        refine ⟨fun h9 => ?_, fun _ => ⟨hB.2.1, A 56, g56, A 54, g54, k54, in24 _ n54, k56, ?_, fun h12 e12 => ?_⟩⟩
        · rw [Z_le, h8] at h9
          omega
        · rw [mH_o m54, cl, z_in, z_16 hx1 q1 hg24 (by omega)]
          show _ ∧ _ < ((xb_n h (A 56) : Nat) : Int)
          omega
        · have c16 : (16 * x1 + F3 (A 54) g).toNatClampNeg = 16 * g + (pc + j) := by rw [z_cl, z_16 hx1 q1 hg24 (by omega)]; omega
          rw [mH_o m54, cl, c16, mH_i, mH_A m56] at e12
          subst e12
          refine ⟨A 54, g54, k54, in24 _ n54, in24 _ n54, fun h17 e17 h18 e18 v19 e19 => ?_⟩
          rw [mH_o m54, cl, mH_A m54, xh_up, if_neg (hB.ne (by decide) (by decide) (by decide))] at e17
          subst e17
          rw [mH_i, mH_I] at e18
          subst e18
          subst e19
          have i1 : (F3 (A 54) g + 1).toInt = (pc + j + 1 : Nat) := z_inc q1 (by omega)
          have i2 : (v3 53 + 1).toInt = (vN v 53 + j + 1 : Nat) := z_inc q2 (by omega)
          have h52 : g < vN v3 52 := by
            unfold vN
            rw [w3 52 (by decide) (by decide)]
            exact hg
          have hX4 := hX3.page (i := 16 * g + (pc + j)) (w1 := 0) h52 q1 q2 (by omega) i1 i2
          have n46 : A 54 ≠ A 56 := hB.ne (by decide) (by decide) (by decide)
          have fo : ∀ a, a ≠ A 54 → a ≠ A 56 → va_up (va_up F3 (A 56) (va_up (F3 (A 56)) (16 * g + (pc + j)) (v3 53))) (A 54) (va_up (F3 (A 54)) g (F3 (A 54) g + 1)) a = F3 a := fun a g1 g2 => by rw [xh_up, if_neg g1, xh_up, if_neg g2]
          have xk : xK mm A h F3 h (va_up (va_up F3 (A 56) (va_up (F3 (A 56)) (16 * g + (pc + j)) (v3 53))) (A 54) (va_up (F3 (A 54)) g (F3 (A 54) g + 1))) := by
            have q : ∀ k, k ∈ kA → (∃ e ∈ aL, e.1 = k) ∧ k ≠ 54 ∧ k ≠ 56 := by decide
            exact ⟨fun k hk => fo _ (hB.ne (q k hk).1 (by decide) (q k hk).2.1) (hB.ne (q k hk).1 (by decide) (q k hk).2.2), fun _ _ => rfl, rfl, fun h9 i => by rw [fo _ (hB.ne (by decide) (by decide) (by decide)) (hB.ne (by decide) (by decide) (by decide))]; exact h9 i⟩
          refine ih (j + 1) _ _ (x8 + 1) (by omega) ?_ hle hle2 (fun a g1 g2 => by rw [fo a g1 g2]; exact k1 a g1 g2) (fun i hi => by rw [xh_up, if_pos rfl, xh_up, if_neg hi]; exact k2 i hi) (fun j' hj' => ?_) (fun i hi => ?_) (p3.tr ⟨⟨(f0.aw (by rw [hB.o (by decide)]; omega)).tr (f0.aw (by rw [hB.o (by decide)]; omega)), xk⟩, fun j' hj' h1 h2 => by rw [xh_up, if_neg h1]⟩) (fun j' h1 h2 => by rw [xh_up, if_neg h2]; exact w3 j' h1 h2) hX4 ?_ ?_
          · rw [Z_add, h8]
            have : (1 : Int64).toInt = 1 := rfl
            omega
          · rw [xh_up, if_neg (Ne.symm n46), xh_up, if_pos rfl, xh_up]
            split
            · next e => rw [q2]; omega
            · exact k3 j' (by omega)
          · rw [xh_up, if_neg (Ne.symm n46), xh_up, if_pos rfl, xh_up, if_neg (hi j (by omega))]
            exact k4 i (fun j' hj' => hi j' (by omega))
          · rw [xh_up, if_pos rfl, xh_up, if_pos rfl]
            exact i1
          · rw [xh_up, if_pos rfl]
            exact i2
    have pc16 : pc ≤ 16 := by omega
    have L57 : ∀ y0 : Int64, y0.toInt = (if 0 ≤ (xb_l h (A 55) g).toInt then (xb_l h (A 55) g).toInt else 65536) → w_M_pagesOf_L57 Q mm x1 v5 v9 y0 (mH h F mm v2) := by
      intro y0 hy0
      unfold w_M_pagesOf_L57
      have esm : (Int32.toInt64 v5 + v9).toInt = pc + v9.toInt := by
        rw [Z_add, Z_of32, e5, z1']
        omega
      refine ⟨fun h9 => hbad (fun hb => ?_), fun h9 => ⟨hB.2.1, fun h16 => ⟨v9.toInt.toNat + 1, ?_⟩, fun h16 => hbad (fun hb => h16 ?_)⟩⟩
      · rw [Z_lt, esm, hy0] at h9
        omega
      rotate_left
      · rw [mH_i, Z_le, Z_add, Z_of32, w2 53 (by decide), n53]
        have e16 : (16 : Int64).toInt = 16 := rfl
        rw [e16]
        omega
      rw [Z_lt, esm, hy0] at h9
      rw [mH_i, Z_le, Z_add, Z_of32, w2 53 (by decide), n53] at h16
      have e16 : (16 : Int64).toInt = 16 := rfl
      rw [e16] at h16
      exact loop v9.toInt.toNat 0 F v2 0 (by omega) rfl (by omega) (by omega) (fun _ _ _ => rfl) (fun _ _ => rfl) (fun _ h9 => absurd h9 (Nat.not_lt_zero _)) (fun _ _ => rfl) (s2.P hB) (fun j h1 _ => w2 j h1) hX2 (by rw [z1']; rfl) (by rw [w2 53 (by decide), n53]; rfl)
    refine ⟨A 55, g55, k55, in24 _ n55, fun h9 => ⟨A 55, g55, k55, in24 _ n55, L57 _ ?_⟩, fun h9 => L57 _ ?_⟩
    · rw [cl] at h9 ⊢
      rw [Z_le] at h9
      have h9' : 0 ≤ (xb_l h (A 55) g).toInt := h9
      rw [if_pos h9']
      rfl
    · rw [cl] at h9
      rw [Z_le] at h9
      have h9' : ¬ 0 ≤ (xb_l h (A 55) g).toInt := h9
      rw [if_neg h9']
      rfl
  · refine hX.pushE (by decide) (hl e63) (fun F4 v4 s4 w4 f4 hX4 _ => ?_)
    exact hQ _ F4 v4 _ _ (s4.P hB) (fun j h1 _ => w4 j h1) hX4 (fun _ => rfl) (fun e => by rw [e63] at e; exact absurd e (by decide)) (by rw [xl_L]; rfl) (.inl ⟨e63, s4.W hB, by rw [e5]; rfl⟩)
end MRM
