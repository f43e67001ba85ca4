-- the reference: a run reads and writes a memory
section MRO
variable {own : Nat → Nat} {mm m i ip k f t b nl o top q a o1 op : Nat} {A : Nat → Nat} {h h' h2 : xb_H} {F F' F2 : Nat → Nat → Int32} {v v' v2 : Nat → Int32} {D : zM} {DM : Nat → zM} {len rl K : Nat} {Q : xb_H → Prop} {Ql : Int64 → xb_H → Prop} {φ φ' : Nat → Nat → Int32} {ν ν' : Nat → Int32} {c c' ex pre : List Int} {gs g1 : List gF} {T p0 E : Nat} {lo ν0 ν1 cb : Nat → Int32} {G : ctG} {V : Nat → Prop} {rm y res : Int} {r : List cX} {nst : Prop} {x : Nat × Option Nat}
theorem Z_wh {z y x8 : Int64} {n w pc : Nat} {u : Int32} (hz : 0 ≤ z.toInt ∧ z.toInt < 4294967296) (hy : y.toInt = w) (hw : w < 4294967296) (hu : u.toInt = n) (hn : n ≤ 8) (hpc : pc ≤ 16) {p : Int32} (hp : p.toInt = pc) (hle : z + y + Int32.toInt64 u ≤ 65536 * Int32.toInt64 p) : ∃ w0 : Nat, (z + y).toInt = w0 ∧ w0 + n ≤ 65536 * pc ∧ ∀ (j : Int32) (i : Nat), j.toInt = i → i < n → (z + y + Int32.toInt64 j).toInt = (w0 + i : Nat) := by
  have e1 : (z + y).toInt = z.toInt + w := by
    rw [Z_add, hy]
    omega
  have e2 : (65536 * Int32.toInt64 p).toInt = 65536 * pc := by
    rw [Int64.toInt_mul, Z_bm, Z_of32, hp]
    have : (65536 : Int64).toInt = 65536 := rfl
    rw [this]
    omega
  rw [Z_le, e2, Z_add, Z_of32, hu, e1] at hle
  refine ⟨(z.toInt + w).toNat, by rw [e1]; omega, by omega, fun j i hj hi => ?_⟩
  rw [Z_add, Z_of32, hj, e1]
  omega
theorem n_inMemory {x1 x2 : Int32} (hX : uX own mm A h F v DM len rl K D t f b nl k o c gs T p0 E lo ν0 ν1 G V rm r) (hG : G 0 a c gs) (hr : rdP v (qb D) (a + 1) (qe D)) (h82 : v 82 = 0) (hx1 : x1 = F (A 44) f) (hx2 : x2.toInt = op) (hop : (qc D a).toInt % 256 = op) (ho : 40 ≤ op) (ho2 : op ≤ 64) (hn : ¬ nst)
    (hQ : ∀ (h' : xb_H) (F' : Nat → Nat → Int32) (v' : Nat → Int32), uP own mm A DM len rl K D t f b nl k o T p0 E lo ν0 ν1 G V rm r a nst h F v h' F' v' → Q (mH h' F' mm v')) : w_M_inMemory mm x1 x2 (mH h F mm v) Q := by
  obtain ⟨C, dD, hVa, hwk, hE1, hE2, hE3, hvk, hcc⟩ := hX.ai hG hop
  obtain ⟨iz, mz, bz, y1, y2, y3, y4, y5, y6, y7, y8, y9, hM, hM2, hM3⟩ := hX.dX
  obtain ⟨-, -, -, -, -, -, -, -, -, -, -, -, -, -, -, C15, -⟩ := C
  obtain ⟨D1, D54, -⟩ := dD
  have hB := hX.1.B
  obtain ⟨hmem, xx, c1, c2, c3, c63, c64, cld, cst⟩ := C15 (by omega) (by omega)
  obtain ⟨sm, sm'⟩ := wk_sh_m (op := (op : Int)) (by omega) (by omega)
  have sh7 : op ≤ 62 → wk_sh ((qc D a).toInt % 256) = 7 := fun h9 => by rw [hop]; exact sm (by omega)
  have sh8 : 63 ≤ op → wk_sh ((qc D a).toInt % 256) = 8 := fun h9 => by rw [hop]; exact sm' (by omega)
  have sh4 : 4 ≤ wk_sh ((qc D a).toInt % 256) := by
    rcases Nat.lt_or_ge op 63 with h9 | h9
    · rw [sh7 (by omega)]; decide
    · rw [sh8 h9]; decide
  obtain ⟨q, hnr, q1, q2, q3, q4⟩ := wOK.nx hvk hVa hwk (.inr sh4)
  obtain ⟨n1, n2, -⟩ := hnr
  have exq : xx = q := by
    have h8 := c1.2.2
    rw [(hvk.2.1 a hVa).2.2.2 (.inr (.inr sh4))] at h8
    have := n2 sh4
    omega
  subst exq
  obtain ⟨g31, k31, n31, m31⟩ := hB.kx (k := 31) (kd := 102) (n := 24) (by decide) (by decide)
  obtain ⟨g54, k54, n54, m54⟩ := hB.kx (k := 54) (kd := 102) (n := 24) (by decide) (by decide)
  have o57 : 60 ≤ own (A 57) := by rw [hB.o (by decide)]; omega
  have clx : x1.toNatClampNeg = iz := by rw [hx1, z_cl, y1]; omega
  have hmem' : 0 < iM D 2 + qt D 5 := by
    have : gn D 4 = 3 * (iM D 2 + qt D 5) := rfl
    omega
  unfold w_M_inMemory
  refine ⟨hB.2.1, fun v2 e2 => ?_⟩
  rw [mH_i] at e2
  subst e2
  refine n_only (κ := 2) (i := iz) hX.1 (by rw [hx1]; exact y1) y3 rfl (.inr rfl) (fun v1 r4 u1 u2 u3 _ => ?_)
  obtain ⟨g, u4, u5⟩ : ∃ g : Nat, r4.toInt = g ∧ g < vN v 52 := by
    rcases u3 with ⟨-, u3⟩ | ⟨g, u3, -, u4, -⟩
    · exfalso
      have u3 := u3 mz y4
      rw [← y9] at u3
      have : qt D (3 + 2) = qt D 5 := rfl
      omega
    · exact ⟨g, u3, u4 rfl⟩
  have hX1 := hX.vg u1 u2
  refine ⟨A 31, g31, k31, ?_, ?_⟩
  · rw [hx1, z_in, y1]
    show _ ∧ _ < ((xb_n h (A 31) : Nat) : Int)
    omega
  rw [mH_o m31, clx]
  have hr21 := hr.2.2.1
  refine m_go_k hM u2 y4 (p := a + 1) hr.1 hr21 (by omega) (fun v3 k3 _ => ?_)
  have hX3 := hX1.vg k3.1 k3.2.2.2
  have vg3 : vg v v3 := u1.tr k3.1
  have v82 : v3 82 = 0 := by rw [vg3 82 (by decide) (by decide) (by decide) (by decide) (by decide)]; exact h82
  have hg3 : g < vN v3 52 := by
    unfold vN
    rw [vg3 52 (by decide) (by decide) (by decide) (by decide) (by decide)]
    exact u5
  have hg24 : g < 24 := by
    have := (hX.1.n (k := 52) (b := 24) (by decide)).2
    omega
  have cg : r4.toNatClampNeg = g := by rw [z_cl, u4]; omega
  -- pages
  have L36 : 63 ≤ op → w_M_inMemory_L36 Q mm x2 (v 15) r4 (mH h F mm v3) := by
    intro h63
    have sh := sh8 h63
    rw [sh] at n1
    obtain ⟨-, e8⟩ := n1.2.2.2.2.2.2.1 rfl
    unfold w_M_inMemory_L36
    have e63 : op = 63 ∨ op = 64 := by omega
    have x63 : x2 = 63 ↔ op = 63 := by
      rw [z_eq, hx2]
      simp only [Int32.reduceToInt]
      omega
    have x64 : x2 = 64 ↔ op = 64 := by
      rw [z_eq, hx2]
      simp only [Int32.reduceToInt]
      omega
    refine ⟨hB.2.1, n_pagesOf hX3 u4 hg3 (fun e => ?_) (fun e => ?_) (fun e => ?_) (fun h5 F5 v5 c5 p5 w5 hX5 f1 f2 _ h6 e6 => ?_)⟩
    · have := hX.rm' (c63 (by have := x63.mp e; omega))
      simp only [List.length_cons] at this
      omega
    · exact x64.mpr (by
        have : op ≠ 63 := fun e9 => e (x63.mpr e9)
        omega)
    · obtain ⟨c2', ec, -⟩ := c64 (by have := x64.mp e; omega)
      have d1 := D1 (by have := x64.mp e; omega)
      rw [ec] at d1
      simp only [List.length_cons] at d1
      exact ⟨c2', ec, by omega⟩
    · rw [mH_I] at e6
      subst e6
      have e15 : (v 15 + 1).toInt = (a + 2 : Nat) := z_inc hr.1 (by omega)
      have vo : ∀ j, j ≠ 15 → va_up v5 15 (v 15 + 1) j = v5 j := fun j hj => by rw [xh_up, if_neg hj]
      have hX6 := hX5.vv (v' := va_up v5 15 (v 15 + 1)) (fun j hj => vo j (fun (e : j = 15) => hj (by rw [e]; decide))) (by rw [vo 17 (by decide)]; exact hX5.1.z)
      have gg : G 0 xx c5 gs := by
        rcases e63 with e | e
        · rw [f1 (x63.mpr e)]
          exact c63 (by omega)
        · rw [f2 (x64.mpr e)]
          exact (c64 (by omega)).choose_spec.2
      exact hQ _ _ _ ⟨(vg.sF (A := A) vg3).P.tr (p5.tr (sF.v1 (A := A) (k := 15) (by decide)).P), .inl ⟨c5, gs, xx, hX6, by rw [xh_up, if_pos rfl, e15, e8], gg, by rw [vo 82 (by decide), w5 82 (by decide) (by decide)]; exact v82, fun h9 => absurd h9 hn⟩⟩
  have x63 : x2 = 63 ↔ op = 63 := by
    rw [z_eq, hx2]
    simp only [Int32.reduceToInt]
    omega
  have x64 : x2 = 64 ↔ op = 64 := by
    rw [z_eq, hx2]
    simp only [Int32.reduceToInt]
    omega
  refine ⟨fun e => L36 (by have := x63.mp e; omega), fun n63 => ⟨fun n64 => ?_, fun e => L36 (by have := x64.mp e; omega)⟩⟩
  have h62 : op ≤ 62 := by
    have : op ≠ 63 := fun e => n63 (x63.mpr e)
    have : op ≠ 64 := fun e => n64 (x64.mpr e)
    omega
  have sh := sh7 h62
  rw [sh] at n1
  obtain ⟨p1, z1, z2, k1, k2⟩ := n1.2.2.2.2.2.1 rfl
  have b1 := rC_b k1
  have b2 := rC_b k2
  refine m_count_k hM.rd k3.2.2.1 k3.2.2.2 k1 (by omega) (fun v4 r4' w4 _ => m_count_k hM.rd (r4'.P k3.2.2.1) w4 k2 (by omega) (fun v5 r5 w5 _ v16 e16 => ?_))
  rw [mH_i] at e16
  subst e16
  have hX5 := (hX3.vg r4'.vg w4).vg r5.vg w5
  have vg5 : vg v v5 := vg3.tr (r4'.vg.tr r5.vg)
  have v15 : (v5 15).toInt = xx := r5.2.1
  have v85 : v5 82 = 0 := by rw [vg5 82 (by decide) (by decide) (by decide) (by decide) (by decide)]; exact h82
  obtain ⟨pc, zp, zp2⟩ := hX.1.w4.2.2.2.1 g u5
  have zp' : (F (A 54) g).toInt = pc := zp
  have n53 := (hX.1.n (k := 53) (b := 16) (by decide)).2
  have x54 : x2 < 54 ↔ op < 54 := by
    rw [z_lt, hx2]
    simp only [Int32.reduceToInt]
    omega
  have h52 : g < vN v5 52 := by
    unfold vN
    rw [vg5 52 (by decide) (by decide) (by decide) (by decide) (by decide)]
    exact u5
  have mt := mt_ty (op - 40) (by omega)
  refine m_accessType hx2 ho h62 (fun r18 e18 _ => m_accessBytes (fun r20 e20 _ => ?_))
  obtain ⟨nb, hnb, hnb2⟩ : ∃ nb : Nat, r20.toInt = nb ∧ nb ≤ 8 := by
    rcases e20 with e | e | e | e <;> subst e
    · exact ⟨1, rfl, by decide⟩
    · exact ⟨2, rfl, by decide⟩
    · exact ⟨4, rfl, by decide⟩
    · exact ⟨8, rfl, by decide⟩
  have L96 : ∀ (v6 : Nat → Int32) (c6 : List Int) (y0 : Int64), sF own A h F v h F v6 → (∀ j, j ≠ 76 → v6 j = v5 j) → uX own mm A h F v6 DM len rl K D t f b nl k o (127 :: c6) gs T p0 E lo ν0 ν1 G V rm r → gbl gs ≤ c6.length → (op < 54 → G 0 xx (MT (op - 40) :: c6) gs) → (54 ≤ op → G 0 xx c6 gs) → w_M_inMemory_L96 Q mm x2 r4 z2 (v5 15) r18 r20 y0 (mH h F mm v6) := by
    intro v6 c6 y0 s6 w6 hX6 hg6 gld gst
    unfold w_M_inMemory_L96
    refine ⟨hB.2.1, hX6.pop (.inr rfl) hg6 (fun z v7 s7 w7 hX7 _ v8 e8 h5 e5 => ?_)⟩
    rw [mH_I, vu_id (show v7 15 = v5 15 by rw [w7 15 (by decide), w6 15 (by decide)])] at e5
    subst e5
    have v715 : (v7 15).toInt = xx := by rw [w7 15 (by decide), w6 15 (by decide)]; exact v15
    have v782 : v7 82 = 0 := by rw [w7 82 (by decide), w6 82 (by decide)]; exact v85
    have h527 : g < vN v7 52 := by
      unfold vN
      rw [w7 52 (by decide), w6 52 (by decide)]
      exact h52
    have pf : pF own h F v h F v7 := (s6.tr s7).P
    refine ⟨A 54, g54, k54, ?_, fun hle => ?_, fun _ h12 e12 => ?_⟩
    · rw [z_in, u4]
      show _ ∧ _ < ((xb_n h (A 54) : Nat) : Int)
      omega
    · rw [mH_o m54, cg, e8] at hle
      obtain ⟨w0, j1, j2, j3⟩ := Z_wh (x8 := 0) (Z_low_rg z) b2.2.2.2 b2.2.2.1 hnb hnb2 (by omega) zp' hle
      rw [← e8] at j1 j3
      refine ⟨fun h54 v11 e11 => ⟨nb + 1, ?_⟩, fun h54 => ⟨nb + 1, ?_⟩⟩
      · -- read
        have o54 := x54.mp h54
        have gl := gld o54
        have hl := hX.rm' gl
        simp only [List.length_cons] at hl
        have L297 : ∀ y1 : Int64, w_M_inMemory_L297 Q r18 y1 mm (mH h F mm v7) := by
          intro y1
          unfold w_M_inMemory_L297
          refine ⟨hB.2.1, hX7.push (by rw [e18]; omega) (by omega) (fun h9 F9 v9 s9 w9 f9 hX9 _ => ?_)⟩
          rw [e18] at hX9
          exact hQ _ _ _ ⟨pf.tr s9.P, .inl ⟨_, gs, xx, hX9, by rw [w9 15 (by decide)]; exact v715, gl, by rw [w9 82 (by decide)]; exact v782, fun h9 => absurd h9 hn⟩⟩
        have L264 : ∀ (x10 : Int64) (y1 : Int32), w_M_inMemory_L264 Q mm r18 r20 x10 y1 (mH h F mm v7) := by
          intro x10 y1
          unfold w_M_inMemory_L264
          exact ⟨fun _ => L297 _, fun _ => L297 _⟩
        have L259 : ∀ (x10 : Int64), w_M_inMemory_L259 Q mm r18 r20 x10 (mH h F mm v7) := fun x10 => L264 x10 1
        have loop : ∀ (n : Nat) (x10 : Int64) (x14 : Int32), n ≤ nb → x14.toInt = (n : Int) - 1 → w_M_inMemory_L197 Q (n + 1) mm x2 r4 r18 r20 x10 v8 x14 (mH h F mm v7) := by
          intro n
          induction n with
          | zero =>
            intro x10 x14 hn1 h14
            unfold w_M_inMemory_L197
            refine ⟨fun _ => ⟨fun _ => L259 _, fun _ => ⟨fun _ => L259 _, fun _ => ⟨fun _ => L259 _, fun _ => ⟨fun _ => L259 _, fun _ => ⟨fun _ => L264 _ _, fun _ => L259 _⟩⟩⟩⟩⟩, fun h9 => ?_⟩
            rw [z_lt, h14] at h9
            simp only [Int32.reduceToInt] at h9
            omega
          | succ n ih =>
            intro x10 x14 hn1 h14
            unfold w_M_inMemory_L197
            refine ⟨fun h9 => ?_, fun _ => ⟨hB.2.1, n_byteAt (w := w0 + n) hX7.1 u4 h527 zp' (j3 x14 n (by rw [h14]; omega) (by omega)) (by omega) (fun r9 _ v10 _ => ih v10 _ (by omega) ?_)⟩⟩
            · rw [z_lt, h14] at h9
              simp only [Int32.reduceToInt] at h9
              omega
            · rw [z_add, h14]
              simp only [Int32.reduceToInt]
              omega
        refine loop nb y0 v11 (Nat.le_refl _) ?_
        rw [e11, z_sub, hnb]
        simp only [Int32.reduceToInt]
        omega
      · -- write
        have o54 : 54 ≤ op := Nat.le_of_not_lt (fun e => h54 (x54.mpr e))
        have gs' := gst o54
        have loop : ∀ (n j : Nat) (F8 : Nat → Nat → Int32) (x14 : Int32), n + j = nb → x14.toInt = j → uX own mm A h F8 v7 DM len rl K D t f b nl k o c6 gs T p0 E lo ν0 ν1 G V rm r → f0 own h F h F8 → F8 (A 54) = F (A 54) → w_M_inMemory_L156 Q (n + 1) mm r4 r20 y0 v8 x14 (mH h F8 mm v7) := by
          intro n
          induction n with
          | zero =>
            intro j F8 x14 hj h14 hX8 f8 f54
            unfold w_M_inMemory_L156
            refine ⟨fun _ => hQ _ _ _ ⟨pf.tr ⟨f8, fun _ _ _ _ => rfl⟩, .inl ⟨c6, gs, xx, hX8, v715, gs', v782, fun h9 => absurd h9 hn⟩⟩, fun h9 => ?_⟩
            rw [z_le, h14, hnb] at h9
            omega
          | succ n ih =>
            intro j F8 x14 hj h14 hX8 f8 f54
            unfold w_M_inMemory_L156
            refine ⟨fun h9 => ?_, fun _ => ⟨hB.2.1, n_storeByte (w := w0 + j) hX8.1 u4 h527 (by rw [f54]; exact zp') (j3 x14 j h14 (by omega)) (by omega) (fun w _ => ih (j + 1) _ _ (by omega) (z_inc h14 (by omega)) (hX8.aw (j := 57) (by decide) (by decide) (by decide) (by decide) (by decide)) (f8.tr (f0.aw o57)) ?_)⟩⟩
            · rw [z_le, h14, hnb] at h9
              omega
            · rw [xh_up, if_neg (hB.ne (by decide) (by decide) (by decide)), f54]
        exact loop nb 0 F 0 rfl rfl hX7 f0.rf rfl
    · rw [mH_I] at e12
      subst e12
      exact hQ _ _ _ (uP.tr pf (hX7.trap (by decide)))
  refine ⟨fun h54 => ?_, fun h54 => ?_⟩
  · have o54 := x54.mp h54
    obtain ⟨c6, ec, gl⟩ := cld (by omega)
    have d1 := D1 (by omega)
    rw [ec] at hX5 d1
    simp only [List.length_cons] at d1
    exact L96 v5 c6 0 vg5.sF (fun _ _ => rfl) hX5 (by omega) (fun _ => by
      rw [show ((op : Int) - 40).toNat = op - 40 by omega] at gl
      exact gl) (fun e => by omega)
  · have o54 : 54 ≤ op := Nat.le_of_not_lt (fun e => h54 (x54.mpr e))
    obtain ⟨c6, ec, gl⟩ := cst (by omega) (by omega)
    have d1 := D54 (by omega)
    rw [show ((op : Int) - 40).toNat = op - 40 by omega] at ec
    rw [ec] at hX5 d1
    simp only [List.length_cons] at d1
    exact hX5.pop (.inr e18) (by simp only [List.length_cons]; omega) (fun z v6 s6 w6 hX6 _ => L96 v6 c6 z (vg5.sF.tr s6) w6 hX6 (by omega) (fun e => by omega) (fun _ => gl))
end MRO
