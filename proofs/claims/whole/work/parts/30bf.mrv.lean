-- the reference: a run leaves a call
def mu : List cX → Nat
  | [] => 0
  | x :: r => 12000 - x.2.2.2.1 + mu r
/-- rows that no instruction changes -/
def kB : List Nat := [1, 3, 6, 7, 8, 9, 10, 11, 12, 21, 24, 25, 26, 27, 28, 31, 32, 33, 35, 36, 37, 38, 39, 40, 41, 44, 45, 48, 49, 51, 59, 60, 89]
def kA : List Nat := [1, 3, 6, 7, 8, 9, 10, 11, 12, 21, 24, 25, 26, 27, 28, 31, 32, 33, 35, 36, 37, 38, 39, 40, 41, 44, 45, 48, 49, 51, 59, 60, 86, 89]
def kL : List Nat := [50, 55, 65, 67]
def xK (mm : Nat) (A : Nat → Nat) (h : xb_H) (F : Nat → Nat → Int32) (h' : xb_H) (F' : Nat → Nat → Int32) : Prop := (∀ k, k ∈ kA → F' (A k) = F (A k)) ∧ (∀ k, k ∈ kL → xb_l h' (A k) = xb_l h (A k)) ∧ xb_l h' mm = xb_l h mm ∧ (vmk A h F → vmk A h' F')
/-- the same, while a trap may be noted -/
def xB (mm : Nat) (A : Nat → Nat) (h : xb_H) (F : Nat → Nat → Int32) (h' : xb_H) (F' : Nat → Nat → Int32) : Prop := (∀ k, k ∈ kB → F' (A k) = F (A k)) ∧ (∀ k, k ∈ kL → xb_l h' (A k) = xb_l h (A k)) ∧ xb_l h' mm = xb_l h mm ∧ (vmk A h F → vmk A h' F')
/-- what instructions may change of the world: variables, bytes, pages (how many, which), all pages, what is put out -/
abbrev rWd : Type := (Nat → Int64) × (Nat → Int32) × (Nat → Int32) × (Nat → Int32) × Int32 × Int32 × (Nat → Int64)
def rwd (A : Nat → Nat) (h : xb_H) (F : Nat → Nat → Int32) (v : Nat → Int32) : rWd := (xb_l h (A 61), F (A 57), F (A 54), F (A 56), v 53, v 88, xb_l h (A 87))
/-- what an instruction may change -/
def pF (own : Nat → Nat) (mm : Nat) (A : Nat → Nat) (h : xb_H) (F : Nat → Nat → Int32) (v : Nat → Int32) (h' : xb_H) (F' : Nat → Nat → Int32) (v' : Nat → Int32) : Prop := (f0 own h F h' F' ∧ xK mm A h F h' F') ∧ ∀ j, j ∉ rnV → j ≠ 53 → j ≠ 88 → v' j = v j
/-- the calls under way -/
def cS (A : Nat → Nat) (F : Nat → Nat → Int32) (v : Nat → Int32) (DM : Nat → zM) (P : Nat → Prop) : Prop := (v 68).toInt = 0 ∨ ∃ (cs : List cX) (top opens : Nat), cs ≠ [] ∧ (v 68).toInt = cs.length ∧ (v 76).toInt = top ∧ (v 81).toInt = opens ∧ RC (fun k => F (A k)) v DM cs [] top opens ∧ P (mu cs)
section MRV
variable {own : Nat → Nat} {mm m i ip k f t b nl o top : Nat} {A : Nat → Nat} {h h' h2 : xb_H} {F F' F2 : Nat → Nat → Int32} {v v' v2 : Nat → Int32} {D : zM} {DM : Nat → zM} {len rl K : Nat} {Q : xb_H → Prop} {Ql : Int64 → xb_H → Prop} {φ φ' : Nat → Nat → Int32} {ν ν' : Nat → Int32} {c c' ex pre : List Int} {gs g1 : List gF} {T p0 E : Nat} {lo ν0 ν1 : Nat → Int32} {G : ctG} {V : Nat → Prop} {rm y res : Int} {r : List cX}
theorem xK.rf : xK mm A h F h F := ⟨fun _ _ => rfl, fun _ _ => rfl, rfl, id⟩
theorem xK.tr (h1 : xK mm A h F h' F') (h2' : xK mm A h' F' h2 F2) : xK mm A h F h2 F2 := ⟨fun k hk => (h2'.1 k hk).trans (h1.1 k hk), fun k hk => (h2'.2.1 k hk).trans (h1.2.1 k hk), h2'.2.2.1.trans h1.2.2.1, fun h9 => h2'.2.2.2 (h1.2.2.2 h9)⟩
theorem xK.B (h1 : xK mm A h F h' F') : xB mm A h F h' F' := ⟨fun k hk => h1.1 k ((by decide : ∀ k, k ∈ kB → k ∈ kA) k hk), h1.2⟩
theorem xB.rf : xB mm A h F h F := xK.rf.B
theorem xB.tr (h1 : xB mm A h F h' F') (h2' : xB mm A h' F' h2 F2) : xB mm A h F h2 F2 := ⟨fun k hk => (h2'.1 k hk).trans (h1.1 k hk), fun k hk => (h2'.2.1 k hk).trans (h1.2.1 k hk), h2'.2.2.1.trans h1.2.2.1, fun h9 => h2'.2.2.2 (h1.2.2.2 h9)⟩
theorem pF.rf : pF own mm A h F v h F v := ⟨⟨f0.rf, xK.rf⟩, fun _ _ _ _ => rfl⟩
theorem pF.tr (h1 : pF own mm A h F v h' F' v') (h2' : pF own mm A h' F' v' h2 F2 v2) : pF own mm A h F v h2 F2 v2 := ⟨⟨h1.1.1.tr h2'.1.1, h1.1.2.tr h2'.1.2⟩, fun j a b c => (h2'.2 j a b c).trans (h1.2 j a b c)⟩
theorem sF.xK (hs : sF own A h F v h' F' v') (hB : mB own mm A h) : xK mm A h F h' F' := ⟨fun k hk => by
    have q : ∀ k, k ∈ kA → (∃ e ∈ aL, e.1 = k) ∧ k ∉ rnA := by decide
    exact hs.ak hB (q k hk).1 (q k hk).2, fun k hk => by
    have q : ∀ k, k ∈ kL → (∃ e ∈ aL, e.1 = k) ∧ k ≠ 74 := by decide
    exact hs.1.2.1 _ (hB.ne (q k hk).1 (by decide) (q k hk).2), hs.1.2.1 _ (Ne.symm (hB.nm (by decide))), hs.1.2.2⟩
theorem sF.P (hs : sF own A h F v h' F' v') (hB : mB own mm A h) : pF own mm A h F v h' F' v' := ⟨⟨hs.1.1, hs.xK hB⟩, fun j a _ _ => hs.2.2 j a⟩
theorem sF.W (hs : sF own A h F v h' F' v') (hB : mB own mm A h) : rwd A h' F' v' = rwd A h F v := by
  unfold rwd
  rw [hs.1.2.1 _ (hB.ne (j := 61) (by decide) (by decide) (by decide)), hs.1.2.1 _ (hB.ne (j := 87) (by decide) (by decide) (by decide)), hs.ak hB (k := 57) (by decide) (by decide), hs.ak hB (k := 54) (by decide) (by decide), hs.ak hB (k := 56) (by decide) (by decide), hs.2.2 53 (by decide), hs.2.2 88 (by decide)]
/-- a result comes to the call below -/
theorem RC.ret {x : cX} (h : RC φ ν DM (x :: r) [y] top o) (hy : (φ 75 top).toInt = y) : RC φ ν DM ((x.1, x.2.1, x.2.2.1, x.2.2.2.1, y :: x.2.2.2.2.1, x.2.2.2.2.2) :: r) [] (top + 1) o := by
  obtain ⟨o1, e1, ⟨a1, a2, a3, a4, T, p0, E, lo, ν0, ν1, G, V, rm, b1, b2, b3, b4, b5, b6, b7, b8, b9⟩, e3⟩ := h
  exact ⟨o1, e1, ⟨a1, a2, a3, by simp only [List.length_cons]; omega, T, p0, E, lo, ν0, ν1, G, V, rm, b1, b2, b3, b4, b5, ⟨by rw [← a4]; exact hy, b6⟩, b7, b8, b9⟩, e3⟩
theorem uX.rt (hX : uX own mm A h F v DM len rl K D t f b nl k o c gs T p0 E lo ν0 ν1 G V rm r) : fRt (fun k => F (A k)) DM f = tRt D t := by
  obtain ⟨a1, -, ⟨a3, a4, a5⟩, -⟩ := hX
  have := (a1.n (k := 43) (b := 8192) (by decide)).2
  unfold fRt
  rw [if_pos (by omega), a3, a4]
theorem tp_cs : tp y = [] ∧ y = 64 ∨ tp y = [y] ∧ y ≠ 64 := by
  unfold tp
  by_cases h9 : y = 64
  · rw [if_pos h9]
    exact .inl ⟨rfl, h9⟩
  · rw [if_neg h9]
    exact .inr ⟨rfl, h9⟩
/-- the calls below, a result of type y come to the latest -/
def rtC (y : Int) : List cX → List cX
  | [] => []
  | x :: r => (x.1, x.2.1, x.2.2.1, x.2.2.2.1, tp y ++ x.2.2.2.2.1, x.2.2.2.2.2) :: r
theorem uX.leaveE (hX : uX own mm A h F v DM len rl K D t f b nl k o (tp (tRt D t) ++ c) gs T p0 E lo ν0 ν1 G V rm r) (hd : gbl gs ≤ c.length) (hQ : ∀ (h' : xb_H) (F' : Nat → Nat → Int32) (v' : Nat → Int32), sF own A h F v h' F' v' → v' 82 = v 82 → (v' 68).toInt = k → rU own mm A h' F' v' DM len rl K → h' = (if tRt D t = 64 then h else xb_L h (A 74) b (arV (tRt D t) (xb_l h (A 74) (b + nl + c.length)))) → (∀ a, a ≠ A 75 → F' a = F a) → (∀ j, j ≠ 76 → j ≠ 81 → j ≠ 68 → v' j = v j) → ((v' 76).toInt = (b + (tp (tRt D t)).length : Nat) ∧ (v' 81).toInt = o) → (r ≠ [] → RC (fun k => F' (A k)) v' DM (rtC (tRt D t) r) [] (b + (tp (tRt D t)).length) o) → Q (mH h' F' mm v')) : w_M_leave mm (mH h F mm v) Q := by
  have hrt := hX.rt
  obtain ⟨a1, ⟨l1, l2, l3, l4, l5, l6, l7, l8⟩, ⟨a3, a4, a5⟩, a6, a7, ⟨a8, a9, a10⟩, a11⟩ := id hX
  have hB := a1.B
  have ob := a6.ob
  have tb : tRt D t = 64 ∨ (124 ≤ tRt D t ∧ tRt D t ≤ 127) := by
    obtain ⟨i, b', y1, y2, y3, y4⟩ := a1.w4.1 f a5
    obtain ⟨m', g1, g2⟩ := a1.mo (i := i) y3
    have em : D = DM m' := by
      rw [← a3]
      unfold fMo
      rw [aV_of (φ := fun k => F (A k)) y1, aV_of (φ := fun k => F (A k)) g1]
    have hR := (a1.X g2).2.2
    rw [← em] at hR
    exact (hR.tb l3.1.2.2.2.2.1).2.2.2.1
  obtain ⟨g71, k71, n71, m71⟩ := hB.kx (k := 71) (kd := 102) (n := 200) (by decide) (by decide)
  obtain ⟨g73, k73, n73, m73⟩ := hB.kx (k := 73) (kd := 102) (n := 200) (by decide) (by decide)
  obtain ⟨g79, k79, n79, m79⟩ := hB.kx (k := 79) (kd := 102) (n := 40400) (by decide) (by decide)
  have e68 : (v 68 - 1).toInt = k := by
    rw [z_sub, a8]
    simp only [Int32.reduceToInt]
    omega
  have cl : (v 68 - 1).toNatClampNeg = k := by rw [z_cl, e68]; omega
  have hlen : b ≤ 16384 := by omega
  -- behind the result that was taken
  have L34 : ∀ (v1 : Nat → Int32) (x2 : Int32) (y0 : Int64), x2.toInt = tRt D t → (tRt D t ≠ 64 → y0 = xb_l h (A 74) (b + nl + c.length)) → (∀ j, j ≠ 76 → v1 j = v j) → w_M_leave_L34 Q mm (v 68 - 1) x2 y0 (mH h F mm v1) := by
    intro v1 x2 y0 hx2 hy0 hv1
    unfold w_M_leave_L34
    refine ⟨hB.2.1, A 71, g71, k71, ?_, fun h5 e5 => ?_⟩
    · rw [z_in, e68]
      show _ ∧ _ < ((xb_n h (A 71) : Nat) : Int)
      omega
    rw [mH_o m71, cl, mH_I] at e5
    subst e5
    refine ⟨A 73, g73, k73, ?_, fun h9 e9 h10 e10 => ?_⟩
    · rw [z_in, e68]
      show _ ∧ _ < ((xb_n h (A 73) : Nat) : Int)
      omega
    rw [mH_o m73, cl, mH_I] at e9
    subst e9
    rw [mH_i, mH_I, xh_up, if_neg (by decide), xh_up, if_neg (by decide), hv1 68 (by decide)] at e10
    subst e10
    -- the numbers now
    have q68 : ∀ w, va_up (va_up (va_up v1 76 w) 81 (F (A 73) k)) 68 (v 68 - 1) 68 = v 68 - 1 := fun w => by rw [xh_up, if_pos rfl]
    have vo : ∀ w, ∀ j, j ≠ 76 → j ≠ 81 → j ≠ 68 → va_up (va_up (va_up v1 76 w) 81 (F (A 73) k)) 68 (v 68 - 1) j = v j := fun w j h1 h2 h3 => by rw [xh_up, if_neg h3, xh_up, if_neg h2, xh_up, if_neg h1, hv1 j h1]
    have fin : ∀ (h' : xb_H) (F' : Nat → Nat → Int32) (v' : Nat → Int32), sF own A h F v h' F' v' → (∀ a, a ≠ A 75 → F' a = F a) → (∀ j, j < b → F' (A 75) j = F (A 75) j) → (∀ j, j ≠ 76 → j ≠ 81 → j ≠ 68 → v' j = v j) → v' 68 = v 68 - 1 → v' 81 = F (A 73) k → ((tRt D t = 64 ∧ (v' 76).toInt = b ∧ h' = h) ∨ (tRt D t ≠ 64 ∧ (v' 76).toInt = (b + 1 : Nat) ∧ (F' (A 75) b).toInt = tRt D t ∧ h' = xb_L h (A 74) b (arV (tRt D t) (xb_l h (A 74) (b + nl + c.length))))) → Q (mH h' F' mm v') := by
      intro h' F' v' s1 f1 f2 w1 w2 w3 w4
      have u' : rU own mm A h' F' v' DM len rl K := a1.sF s1 (by rw [w1 17 (by decide) (by decide) (by decide)]; exact a1.z) (by rw [w1 94 (by decide) (by decide) (by decide)]; exact a1.W1.2.1.2.2)
      have e43 : vN v' 43 = vN v 43 := by
        unfold vN
        rw [w1 43 (by decide) (by decide) (by decide)]
      have ak : ∀ k, (∃ e ∈ aL, e.1 = k) → k ≠ 75 → F' (A k) = F (A k) := fun k hk h9 => f1 _ (hB.ne hk (by decide) h9)
      have R := RC.fr (φ := fun k => F (A k)) (φ' := fun k => F' (A k)) (ν := v) (ν' := v') (ak 31 (by decide) (by decide)) (ak 44 (by decide) (by decide)) (ak 45 (by decide) (by decide)) e43 (fun k hk j _ => by
        have q : ∀ k, k ∈ [69, 70, 71, 72, 73] → (∃ e ∈ aL, e.1 = k) ∧ k ≠ 75 := by decide
        show F' (A k) j = F (A k) j
        rw [ak k (q k hk).1 (q k hk).2]) f2 (fun k hk j _ => by
        have q : ∀ k, k ∈ [77, 78, 79, 80] → (∃ e ∈ aL, e.1 = k) ∧ k ≠ 75 := by decide
        show F' (A k) j = F (A k) j
        rw [ak k (q k hk).1 (q k hk).2]) a6
      rw [hrt] at R
      have e81 : (v' 81).toInt = o := by rw [w3]; exact l2.2.2.2
      refine hQ h' F' v' s1 (w1 82 (by decide) (by decide) (by decide)) (by rw [w2]; exact e68) u' ?_ f1 w1 ⟨?_, e81⟩ (fun hr => ?_)
      · rcases w4 with ⟨w5, -, w6⟩ | ⟨w5, -, -, w6⟩
        · rw [if_pos w5]; exact w6
        · rw [if_neg w5]; exact w6
      · rcases w4 with ⟨w5, w6, -⟩ | ⟨w5, w6, -, -⟩
        · rw [w5]; exact w6
        · rw [tp_ne w5]; exact w6
      · match r, hr, R with
        | x :: r, _, R =>
          rcases w4 with ⟨w5, w6, -⟩ | ⟨w5, w6, w7, -⟩
          · rw [w5] at R ⊢
            exact R
          · have et : tp (tRt D t) = [tRt D t] := tp_ne w5
            unfold rtC
            rw [et] at R ⊢
            exact R.ret w7
    have s0 : sF own A h F v h F (va_up (va_up (va_up v1 76 (F (A 71) k)) 81 (F (A 73) k)) 68 (v 68 - 1)) := ⟨⟨f0.rf, fun _ _ => rfl, id⟩, fun _ _ => rfl, fun j hj => vo _ j (fun e => hj (e ▸ by decide)) (fun e => hj (e ▸ by decide)) (fun e => hj (e ▸ by decide))⟩
    have q81 : va_up (va_up (va_up v1 76 (F (A 71) k)) 81 (F (A 73) k)) 68 (v 68 - 1) 81 = F (A 73) k := by rw [xh_up, if_neg (by decide), xh_up, if_pos rfl]
    have q76 : (va_up (va_up (va_up v1 76 (F (A 71) k)) 81 (F (A 73) k)) 68 (v 68 - 1) 76).toInt = b := by
      rw [xh_up, if_neg (by decide), xh_up, if_neg (by decide), xh_up, if_pos rfl]
      exact l2.2.1
    refine ⟨fun h64 => ?_, fun h64 => ?_⟩
    · unfold w_M_leave_L77
      exact fin _ _ _ s0 (fun _ _ => rfl) (fun _ _ => rfl) (vo _) (q68 _) q81 (.inl ⟨by rw [← hx2, h64]; rfl, q76, rfl⟩)
    · have n64 : tRt D t ≠ 64 := fun e => h64 (by rw [z_eq, hx2, e]; rfl)
      refine n_addE (top := b) hB q76 (by omega) (by rw [hx2]; omega) (fun w ew _ => ?_)
      unfold w_M_leave_L77
      have s1 := (s0.tr (sF.L (j := b) (x := y0) hB ew)).tr (sF.v1 (k := 76) (x := va_up (va_up (va_up v1 76 (F (A 71) k)) 81 (F (A 73) k)) 68 (v 68 - 1) 76 + 1) (by decide))
      refine fin _ _ _ s1 (fun a ha => by rw [xh_up, if_neg ha]) (fun j hj => by rw [xh_up, if_pos rfl, xh_up, if_neg (by omega)]) (fun j h1 h2 h3 => by rw [xh_up, if_neg h1]; exact vo _ j h1 h2 h3) (by rw [xh_up, if_neg (by decide)]; exact q68 _) (by rw [xh_up, if_neg (by decide)]; exact q81) (.inr ⟨n64, ?_, ?_, by rw [hx2, hy0 n64]⟩)
      · rw [xh_up, if_pos rfl]
        exact z_inc q76 (by omega)
      · rw [xh_up, if_pos rfl, xh_up, if_pos rfl, ew, hx2]
  unfold w_M_leave
  rw [mH_i]
  refine ⟨hB.2.1, fun v2 e2 => ⟨A 79, g79, A 73, g73, k73, ?_, k79, ?_, fun v9 e9 => ?_⟩⟩
  · rw [e2, z_in, e68]
    show _ ∧ _ < ((xb_n h (A 73) : Nat) : Int)
    omega
  · rw [e2, cl, mH_o m73, z_in, show (F (A 73) k).toInt = o from l2.2.2.2]
    show _ ∧ _ < ((xb_n h (A 79) : Nat) : Int)
    omega
  · have e9' : v9 = F (A 79) o := by rw [e9, e2, cl, mH_o m73, mH_o m79, z_cl, show (F (A 73) k).toInt = o from l2.2.2.2, Int.toNat_natCast]
    have h9 : v9.toInt = tRt D t := by rw [e9']; exact l6.2.1
    rw [e2]
    refine ⟨fun h64 => ?_, fun h64 => L34 v v9 0 h9 (fun h8 => absurd (by rw [← h9, h64]; rfl) h8) (fun _ _ => rfl)⟩
    have n64 : tRt D t ≠ 64 := fun e => h64 (by rw [z_eq, h9, e]; rfl)
    rw [tp_ne n64] at hX
    exact hX.popE (.inr h9) hd (fun v1 _ w1 _ _ => L34 v1 v9 _ h9 (fun _ => rfl) w1)
theorem uX.leave (hX : uX own mm A h F v DM len rl K D t f b nl k o (tp (tRt D t) ++ c) gs T p0 E lo ν0 ν1 G V rm r) (hd : gbl gs ≤ c.length) (hQ : ∀ (h' : xb_H) (F' : Nat → Nat → Int32) (v' : Nat → Int32), sF own A h F v h' F' v' → v' 82 = v 82 → (v' 68).toInt = k → rU own mm A h' F' v' DM len rl K → cS A F' v' DM (fun m => m = mu r) → Q (mH h' F' mm v')) : w_M_leave mm (mH h F mm v) Q := by
  obtain ⟨-, -, -, -, a7, -, -⟩ := id hX
  refine hX.leaveE hd (fun h' F' v' s1 w1 w2 u1 _ _ _ w4 w5 => hQ h' F' v' s1 w1 w2 u1 ?_)
  cases r with
  | nil => exact .inl (by rw [w2, ← a7]; rfl)
  | cons x r => exact .inr ⟨rtC (tRt D t) (x :: r), _, o, by unfold rtC; simp, by rw [w2, ← a7]; rfl, w4.1, w4.2, w5 (by simp), rfl⟩
end MRV
